/-! THE SEARCH: the first way, the bound -/
/-- where a choice hinders nothing later, the first way is best -/
theorem sV_first (way cl : Nat → Nat → Bool) (d t : Nat) (r : Nat → Nat) (hh : ∀ u, t < u → cl u t = false) (i0 : Nat) (hi : i0 < 31) (ho : sop way cl t r (i0 + 1) = true) (hf : ∀ i, i < i0 → sop way cl t r (i + 1) = false) : sV (sop way cl) (d + 1) t r = ((sV (sop way cl) d (t + 1) (su r t (i0 + 1))).1 + 1, (sV (sop way cl) d (t + 1) (su r t (i0 + 1))).2) := by
  have hs : ∀ s s2, (sV (sop way cl) d (t + 1) (su r t s)).1 = (sV (sop way cl) d (t + 1) (su r t s2)).1 := by
    intro s s2
    refine sV_indep way cl d (t + 1) _ _ ?_
    intro u v hu hv hc
    unfold su
    by_cases e : v = t
    · rw [e, hh u (by omega)] at hc; cases hc
    · rw [if_neg e, if_neg e]
  rw [sV]
  have key : ∀ m, m ≤ 31 → kfo (fun i b => if sop way cl t r (i + 1) then (if b.1 < (sV (sop way cl) d (t + 1) (su r t (i + 1))).1 + 1 then ((sV (sop way cl) d (t + 1) (su r t (i + 1))).1 + 1, (sV (sop way cl) d (t + 1) (su r t (i + 1))).2) else b) else b) m (sV (sop way cl) d (t + 1) (su r t 0)) = if m ≤ i0 then sV (sop way cl) d (t + 1) (su r t 0) else ((sV (sop way cl) d (t + 1) (su r t (i0 + 1))).1 + 1, (sV (sop way cl) d (t + 1) (su r t (i0 + 1))).2) := by
    intro m
    induction m with
    | zero => intro _; rw [if_pos (by omega)]; rfl
    | succ m ih =>
      intro hm
      rw [kfo, ih (by omega)]
      by_cases h1 : m < i0
      · rw [hf m h1, if_neg (by decide), if_pos (by omega), if_pos (by omega)]
      · by_cases h2 : m = i0
        · rw [h2, ho, if_pos rfl, if_pos (Nat.le_refl _), if_neg (show ¬ i0 + 1 ≤ i0 by omega), if_pos]
          rw [hs 0 (i0 + 1)]
          omega
        · rw [if_neg (show ¬ m ≤ i0 by omega), if_neg (show ¬ m + 1 ≤ i0 by omega)]
          have : ¬ ((sV (sop way cl) d (t + 1) (su r t (i0 + 1))).1 + 1 < (sV (sop way cl) d (t + 1) (su r t (m + 1))).1 + 1) := by
            rw [hs (m + 1) (i0 + 1)]; omega
          by_cases hw : sop way cl t r (m + 1) = true
          · rw [if_pos hw]
            exact if_neg this
          · rw [if_neg hw]
  rw [key 31 (Nat.le_refl _), if_neg (by omega)]
/-- how many of the levels from u on are still open, given the row before t -/
def sO (way cl : Nat → Nat → Bool) (t : Nat) (r : Nat → Nat) : Nat → Nat → Nat
  | 0, _ => 0
  | d + 1, u => sO way cl t r d (u + 1) + (if kall (fun i => !(way u (i + 1) && kall (fun v => !(cl u v) || decide ((i + 1) &&& r v = 0)) t)) 31 then 0 else 1)
theorem sO_mono (way cl : Nat → Nat → Bool) (t : Nat) (r r2 : Nat → Nat) (hr : ∀ v, v < t → r v = r2 v) : ∀ d u, sO way cl (t + 1) r2 d u ≤ sO way cl t r d u
  | 0, _ => Nat.le_refl 0
  | d + 1, u => by
    rw [sO, sO]
    refine Nat.add_le_add (sO_mono way cl t r r2 hr d (u + 1)) ?_
    by_cases h : kall (fun i => !(way u (i + 1) && kall (fun v => !(cl u v) || decide ((i + 1) &&& r v = 0)) t)) 31 = true
    · rw [if_pos h, if_pos]
      · exact Nat.le_refl 0
      rw [kall_iff] at h ⊢
      intro j hj
      have := h j hj
      cases hw : way u (j + 1)
      · simp [hw]
      · rw [hw] at this
        simp only [Bool.true_and, Bool.not_eq_true'] at this ⊢
        cases hk : kall (fun v => !(cl u v) || decide ((j + 1) &&& r2 v = 0)) (t + 1)
        · rfl
        · rw [kall_iff] at hk
          have : kall (fun v => !(cl u v) || decide ((j + 1) &&& r v = 0)) t = true := by
            rw [kall_iff]
            intro v hv
            have := hk v (by omega)
            rw [hr v hv]; exact this
          simp_all
    · rw [if_neg h]; split <;> omega
theorem sV_sO (way cl : Nat → Nat → Bool) : ∀ (d t : Nat) (r : Nat → Nat), (sV (sop way cl) d t r).1 ≤ sO way cl t r d t
  | 0, _, _ => Nat.le_refl 0
  | d + 1, t, r => by
    have hs : ∀ s, (sV (sop way cl) d (t + 1) (su r t s)).1 ≤ sO way cl t r d (t + 1) := fun s => Nat.le_trans (sV_sO way cl d (t + 1) (su r t s)) (sO_mono way cl t r _ (fun v hv => by unfold su; rw [if_neg (by omega)]) d (t + 1))
    rw [sV, sO]
    refine kfo_inv (fun _ (b : Nat × (Nat → Nat)) => b.1 ≤ _) 31 _ (Nat.le_trans (hs 0) (Nat.le_add_right _ _)) ?_
    intro j a hj ha
    by_cases ho : sop way cl t r (j + 1) = true
    · have hne : ¬ kall (fun i => !(way t (i + 1) && kall (fun v => !(cl t v) || decide ((i + 1) &&& r v = 0)) t)) 31 = true := by
        rw [kall_iff]
        intro g
        have := g j hj
        unfold sop at ho
        rw [ho] at this
        cases this
      rw [if_neg hne] at ha ⊢
      show (if sop way cl t r (j + 1) then (if a.1 < (sV (sop way cl) d (t + 1) (su r t (j + 1))).1 + 1 then ((sV (sop way cl) d (t + 1) (su r t (j + 1))).1 + 1, (sV (sop way cl) d (t + 1) (su r t (j + 1))).2) else a) else a).1 ≤ _
      rw [if_pos ho]
      split
      · exact Nat.add_le_add_right (hs (j + 1)) 1
      · exact ha
    · show (if sop way cl t r (j + 1) then (if a.1 < (sV (sop way cl) d (t + 1) (su r t (j + 1))).1 + 1 then ((sV (sop way cl) d (t + 1) (su r t (j + 1))).1 + 1, (sV (sop way cl) d (t + 1) (su r t (j + 1))).2) else a) else a).1 ≤ _
      rw [if_neg ho]; exact ha
