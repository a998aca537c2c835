/-! TOURS: the class's play, sendHome, go -/
section TX2
variable {N : Nat} {G G0 : kg_G} {T np : Nat} {q : Nat → tk_Q} {D : jD}
theorem x_play (h : jX N G0 T np q D) (hf : tfr G0 G) {s : tS} (hs : tX G s) : ∃ G1, fX7_play N G G0.2.2.2.1 = some (nI (tplay T q s.1 s.2.1 s.2.2.2.1 T).2.2, G1) ∧ tfr G0 G1 ∧ tX G1 (s.1, s.2.1, s.2.2.1, (tplay T q s.1 s.2.1 s.2.2.2.1 T).2.1, s.2.2.2.2) := by
  have hN := h.2.2.2.2.2
  have h5 := h.2.1.1
  obtain ⟨h1, h2, h3, h4, h6, h7⟩ := hs
  obtain ⟨t0, wz, x, hb, hta, hlz, hx⟩ := h.2.2.1
  have hY : ∀ G1, tfr G0 G1 → kg_Y G1 = kg_Y G0 := fun G1 h => congrArg (fun z => z.2.2) h.2.2.1
  obtain ⟨n', a', e1, e2, e3, e4⟩ := kl_inv (fun n (a : kg_G × Int32) i => fX7_play_15 N n a.1 G0.2.2.2.1 a.2 (nI T) i) (fun t a => tfr G0 a.1 ∧ tX a.1 (s.1, s.2.1, s.2.2.1, (tplay T q s.1 s.2.1 s.2.2.2.1 t).2.1, s.2.2.2.2) ∧ a.2 = nI (tplay T q s.1 s.2.1 s.2.2.2.1 t).2.2 ∧ ∀ u, u < t → kA a.1 25 u = nI ((tplay T q s.1 s.2.1 s.2.2.2.1 t).1 u)) T (n := N) (a := (G, 0)) (by omega) ⟨hf, ⟨h1, h2, h3, h4, h6, h7⟩, rfl, fun u hu => by omega⟩ (by
    intro n a t ht ⟨a1, a2, a3, a4⟩
    obtain ⟨b1, b2, b3, b4, b6, b7⟩ := a2
    obtain ⟨p, hp⟩ : ∃ p, p = tplay T q s.1 s.2.1 s.2.2.2.1 t := ⟨_, rfl⟩
    have hp1 : tplay T q s.1 s.2.1 s.2.2.2.1 (t + 1) = tg T q s.1 s.2.1 t p := by rw [hp]; rfl
    have hpok := tplay_ok (T := T) (q := q) (L := s.1) (n := s.2.1) (d := s.2.2.2.1) h1 t
    rw [← hp] at a3 a4 b4 hpok
    rw [hp1]
    have hXa := tfr_X h a1
    have l25 : (a.1.2.1 25).length = 5 := a1.1 25 (by decide)
    have l24 : (a.1.2.1 24).length = 5 := a1.1 24 (by decide)
    have hbl : kg_bl (kg_Y a.1) G0.2.2.2.1 = some (t0, nI np) := by rw [hY a.1 a1]; exact hb
    have hta' : kg_ta (kg_Y a.1) t0 = some wz := by rw [hY a.1 a1]; exact hta
    have hx2 : kg_tr (kg_Y a.1) (x t) = some (q t) := by rw [hY a.1 a1]; exact (hx t ht).2
    have hbill : a.1.2.2.2.1 = G0.2.2.2.1 := congrArg (fun z => z.2.1) a1.2.2.1
    have hcl : fX0_clashesOf N a.1 G0.2.2.2.1 (nI t) = some (nI (kset (jcl q t) T)) := by rw [← hbill]; exact x_clashesOf hXa ht
    have hbf : fX7_busyFor N a.1 (nI (kset (jcl q t) T)) (nI t) = some (nI (kbz (scl T q t) p.1 0 t)) := x_busyFor hN h5 l25 ht (fun u hu => ⟨a4 u hu, hpok.1 u⟩)
    have hbz := kbz_lt (scl T q t) p.1 (show 0 < 32 by omega) t (fun i _ => hpok.1 i)
    obtain ⟨S, hS⟩ : ∃ S, S = tset (tok T q s.1 p.1 t) (tcr (q t)) s.2.1 := ⟨_, rfl⟩
    have htk : fX7_take N a.1 (x t) (nI (kbz (scl T q t) p.1 0 t)) = some (nI S) := by
      rw [hS]
      refine x_take hN hx2 l24 b1 hbz b2 b7 (fun k hk => ?_)
      rw [kbz_bit, Bool.not_not]; rfl
    have hS32 : S < 32 := by rw [hS]; exact tset_32 _ _ h1
    let G1 := kg_a a.1 25 ((a.1.2.1 25).set t (nI S))
    have f1 : tfr G0 G1 := tfr_a a1 (Or.inr rfl) (by rw [List.length_set, l25])
    have hX1 := tfr_X h f1
    have hbill1 : G1.2.2.2.1 = G0.2.2.2.1 := hbill
    have hdb : fX0_isDoneBy N G1 G0.2.2.2.1 (nI t) (nI S) 24 = some (if jdone (q t) s.1 S then 1 else 0) := by
      rw [← hbill1]
      refine x_isDoneBy hX1 ht hS32 24 (by decide) l24 s.1 (fun k hk hb => ?_)
      rw [hS, tset_bit _ _ h1 hk] at hb
      simp only [Bool.and_eq_true, decide_eq_true_eq] at hb
      exact b7 k hb.1
    have g25 : kv_g ((a.1.2.1 25).set t (nI S)) (nI t) = some (nI S) := by
      rw [kn_g (by rw [List.length_set]; omega) (by rw [List.length_set]; omega), getD_set (by omega), if_pos rfl]
    have hpu : ∀ u, u < t + 1 → ((a.1.2.1 25).set t (nI S)).getD u 0 = nI (su p.1 t S u) := by
      intro u hu
      rw [getD_set (by omega)]
      unfold su
      by_cases e : u = t
      · rw [if_pos e, if_pos e]
      · rw [if_neg e, if_neg e]; exact a4 u (by omega)
    have e25 : kv_p (a.1.2.1 25) (nI t) (nI S) = some ((a.1.2.1 25).set t (nI S)) := kn_p (by omega) (by omega)
    have base : fX7_play_15 N (n + 1) a.1 G0.2.2.2.1 a.2 (nI T) (nI t) = if jdone (q t) s.1 S then fX7_play_15 N n (kg_i G1 23 3 ((a.1.1 23 3) + 1)) G0.2.2.2.1 (a.2 ||| nI S) (nI T) (nI (t + 1)) else fX7_play_15 N n G1 G0.2.2.2.1 a.2 (nI T) (nI (t + 1)) := by
      rw [fX7_play_15, if_neg (m_loop (by omega) ht)]
      simp only [hbl, Option.bind_some, hta', (hx t ht).1, hcl, hbf, htk, e25, g25, kn_succ]
      show (fX0_isDoneBy N G1 G0.2.2.2.1 (nI t) (nI S) 24).bind _ = _
      rw [hdb, Option.bind_some]
      cases jdone (q t) s.1 S <;> rfl
    unfold tg
    rw [← hS]
    by_cases z : jdone (q t) s.1 S = true
    · refine ⟨(kg_i G1 23 3 ((a.1.1 23 3) + 1), a.2 ||| nI S), base.trans (if_pos z), tfr_i f1 3 _, ⟨b1, b2, b3, ?_, b6, b7⟩, ?_, hpu⟩
      · show a.1.1 23 3 + 1 = (if jdone (q t) s.1 S then p.2.1 + 1 else p.2.1)
        rw [if_pos z, b4]
      · show a.2 ||| nI S = nI (if jdone (q t) s.1 S then p.2.2 ||| S else p.2.2)
        rw [if_pos z, a3, nI_or]
    · refine ⟨(G1, a.2), base.trans (if_neg z), f1, ⟨b1, b2, b3, ?_, b6, b7⟩, ?_, hpu⟩
      · show a.1.1 23 3 = (if jdone (q t) s.1 S then p.2.1 + 1 else p.2.1)
        rw [if_neg z, b4]
      · show a.2 = nI (if jdone (q t) s.1 S then p.2.2 ||| S else p.2.2)
        rw [if_neg z, a3])
  refine ⟨a'.1, ?_, e2, e3⟩
  unfold fX7_play
  have hbl : kg_bl (kg_Y G) G0.2.2.2.1 = some (t0, nI np) := by rw [hY G hf]; exact hb
  have hta' : kg_ta (kg_Y G) t0 = some wz := by rw [hY G hf]; exact hta
  have em : fJ9_min_7cf53 (nI T) 5 = nI T := by
    unfold fJ9_min_7cf53
    rw [if_neg]
    show ¬ nI 5 < nI T
    rw [kn_lt (by omega) (by omega)]; omega
  rw [hbl, Option.bind_some, hta', Option.bind_some, hlz, em]
  refine Eq.trans e1 ?_
  show fX7_play_15 N (n' + 1) a'.1 G0.2.2.2.1 a'.2 (nI T) (nI T) = _
  rw [fX7_play_15, if_pos (Int32.le_refl _), e4.1]
theorem x_shift (hN : 100 < N) (hf : tfr G0 G) {L : Nat → Int32} {n f : Nat} (hn : n ≤ 5) (hfn : f < n) (h2 : G.1 23 2 = nI n) (hL : ∀ k, k < n → kA G 24 k = L k) : ∃ xs, xs.length = 5 ∧ fX7_sendHome_36 N N G (nI (f + 1)) = some (kg_i (kg_i (kg_a G 24 xs) 23 2 ((nI n) - 1)) 23 4 ((G.1 23 4) + 1)) ∧ ∀ k, k < n - 1 → xs.getD k 0 = if k < f then L k else L (k + 1) := by
  have l24 : (G.2.1 24).length = 5 := hf.1 24 (by decide)
  obtain ⟨a', e1, _, xs, g1, g2, g3⟩ := kl_go (fun m g i => fX7_sendHome_36 N m g i) (fun m g => f + 1 ≤ m ∧ ∃ xs, g = kg_a G 24 xs ∧ xs.length = 5 ∧ ∀ k, k < n → xs.getD k 0 = if k < f then L k else if k + 1 < m then L (k + 1) else L k) n (by
    intro m g j hj ⟨hj1, xs, g1, g2, g3⟩
    refine ⟨kg_a G 24 (xs.set (j - 1) (L j)), ?_, by omega, _, rfl, by rw [List.length_set, g2], fun k hk => ?_⟩
    · show fX7_sendHome_36 N (m + 1) g (nI j) = fX7_sendHome_36 N m _ (nI (j + 1))
      have h2' : (kg_a G 24 xs).1 23 2 = nI n := h2
      have ej : nI j - 1 = nI (j - 1) := kn_sub (a := j) (b := 1) (by omega)
      have gj : xs.getD j 0 = L j := by rw [g3 j hj, if_neg (by omega), if_neg (by omega)]
      rw [g1, fX7_sendHome_36, h2', if_neg (m_loop (by omega) hj), kv_ga g2 (by show j < 5; omega) (by decide), Option.bind_some, ej, kv_pa g2 (by show j - 1 < 5; omega) (by decide), Option.bind_some, kg_aa, gj, kn_succ]
    · rw [getD_set (by omega), g3 k hk]
      by_cases e : k = j - 1
      · rw [if_pos e, if_neg (by omega), if_pos (by omega), show k + 1 = j by omega]
      · rw [if_neg e]
        by_cases c1 : k < f
        · rw [if_pos c1, if_pos c1]
        · rw [if_neg c1, if_neg c1]
          by_cases c2 : k + 1 < j
          · rw [if_pos c2, if_pos (by omega)]
          · rw [if_neg c2, if_neg (by omega)]) (n - (f + 1)) (f + 1) N G (by omega) (by omega) ⟨Nat.le_refl _, G.2.1 24, (kg_as G 24).symm, l24, fun k hk => by
      have : (G.2.1 24).getD k 0 = L k := hL k hk
      rw [this]
      by_cases c1 : k < f
      · rw [if_pos c1]
      · rw [if_neg c1, if_neg (by omega)]⟩
  refine ⟨xs, g2, ?_, fun k hk => ?_⟩
  · refine Eq.trans e1 ?_
    show fX7_sendHome_36 N (N - (n - (f + 1))) a' (nI n) = _
    obtain ⟨n', hn'⟩ : ∃ n', N - (n - (f + 1)) = n' + 1 := ⟨N - (n - (f + 1)) - 1, by omega⟩
    have h2' : (kg_a G 24 xs).1 23 2 = nI n := h2
    rw [hn', g1, fX7_sendHome_36, h2', if_pos (Int32.le_refl _)]
    rfl
  · rw [g3 k (by omega)]
    by_cases c1 : k < f
    · rw [if_pos c1, if_pos c1]
    · rw [if_neg c1, if_neg c1, if_pos (by omega)]
theorem x_sendHome (hN : 100 < N) (hf : tfr G0 G) {s : tS} (hs : tX G s) {d : Nat} (hd : d < 32) : ∃ G1, fX7_sendHome N G (nI d) = some G1 ∧ tfr G0 G1 ∧ tX G1 (tsend s d) := by
  obtain ⟨h1, h2, h3, h4, h6, h7⟩ := hs
  obtain ⟨k1, k2, k3, k4⟩ := kffg_ok (fun k => d.testBit k) s.2.1 0
  have e1 : fX7_sendHome N G (nI d) = fX7_sendHome_24 N G (nI (kffg (fun k => d.testBit k) s.2.1 0)) := by
    refine kl_first (fun m x => fX7_sendHome_2 N m G (nI d) x) (fun k => d.testBit k) s.2.1 (fun j => fX7_sendHome_24 N G (nI j)) ?_ ?_ s.2.1 0 N (by omega) (by omega)
    · intro m
      show fX7_sendHome_2 N (m + 1) G (nI d) (nI s.2.1) = _
      rw [fX7_sendHome_2, h2, if_pos (Int32.le_refl _)]
    · intro m j hj
      show fX7_sendHome_2 N (m + 1) G (nI d) (nI j) = if d.testBit j then fX7_sendHome_2 N m G (nI d) (nI (j + 1)) else fX7_sendHome_24 N G (nI j)
      rw [fX7_sendHome_2, h2, if_neg (m_loop (by omega) hj), kb_has d hd j (by omega), kn_succ]
      cases d.testBit j <;> rfl
  rw [e1]
  unfold fX7_sendHome_24 tsend
  rw [h2]
  have ele : (nI s.2.1 ≤ nI (kffg (fun k => d.testBit k) s.2.1 0)) = (s.2.1 ≤ kffg (fun k => d.testBit k) s.2.1 0) := kn_le (by omega) (by omega)
  by_cases z : kffg (fun k => d.testBit k) s.2.1 0 < s.2.1
  · rw [if_neg (by rw [ele]; omega), if_pos z, kn_succ]
    obtain ⟨xs, x1, x2, x3⟩ := x_shift hN hf h1 z h2 h7
    refine ⟨_, x2, tfr_i (tfr_i (tfr_a hf (Or.inl rfl) x1) 2 _) 4 _, ?_, ?_, h3, h4, ?_, fun k hk => x3 k hk⟩
    · show s.2.1 - 1 ≤ 5
      omega
    · show nI s.2.1 - 1 = nI (s.2.1 - 1)
      exact kn_sub (a := s.2.1) (b := 1) (by omega)
    · show G.1 23 4 + 1 = s.2.2.2.2 + 1
      rw [h6]
  · rw [if_pos (by rw [ele]; omega), if_neg z]
    exact ⟨G, rfl, hf, h1, h2, h3, h4, h6, h7⟩
theorem x_go (h : jX N G T np q D) {m : Nat} (hm : m ≤ 40) (seed : Int32) : ∃ G1, fX7_go N G G.2.2.2.1 (nI m) seed = some G1 ∧ tfr G G1 ∧ tX G1 (ttour T q seed m) := by
  have hN := h.2.2.2.2.2
  obtain ⟨n', a', e1, e2, e3⟩ := kl_inv (fun n (g : kg_G) i => fX7_go_23 N n g G.2.2.2.1 (nI m) i) (fun j g => tfr G g ∧ tX g (ttour T q seed j)) m (n := N) (a := kg_i (kg_i (kg_i (kg_i G 23 2 0) 23 3 0) 23 4 0) 23 5 seed) (by omega) ⟨tfr_i (tfr_i (tfr_i (tfr_i (tfr_refl h.1) 2 _) 3 _) 4 _) 5 _, by show (0 : Nat) ≤ 5; omega, rfl, rfl, rfl, rfl, fun k hk => by
      have : k < 0 := hk
      omega⟩ (by
    intro n g j hj ⟨g1, g2⟩
    obtain ⟨G1, a1, a2, a3⟩ := x_call g1 g2
    obtain ⟨G2, b1, b2, b3⟩ := x_play h a2 a3
    obtain ⟨G3, c1, c2, c3⟩ := x_sendHome hN b2 b3 (d := (tplay T q (tcall (ttour T q seed j)).1 (tcall (ttour T q seed j)).2.1 (tcall (ttour T q seed j)).2.2.2.1 T).2.2) (tplay_ok a3.1 T).2
    refine ⟨G3, ?_, c2, c3⟩
    show fX7_go_23 N (n + 1) g G.2.2.2.1 (nI m) (nI j) = fX7_go_23 N n G3 G.2.2.2.1 (nI m) (nI (j + 1))
    rw [fX7_go_23, if_neg (m_loop (by omega) hj), a1, Option.bind_some, b1, Option.bind_some]
    show (fX7_sendHome N G2 (nI (tplay T q (tcall (ttour T q seed j)).1 (tcall (ttour T q seed j)).2.1 (tcall (ttour T q seed j)).2.2.2.1 T).2.2)).bind _ = _
    rw [c1, Option.bind_some, kn_succ])
  refine ⟨a', ?_, e2, e3⟩
  unfold fX7_go
  refine Eq.trans e1 ?_
  show fX7_go_23 N (n' + 1) a' G.2.2.2.1 (nI m) (nI m) = _
  rw [fX7_go_23, if_pos (Int32.le_refl _)]
end TX2
