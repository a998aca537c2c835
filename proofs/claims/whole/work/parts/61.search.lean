/-! THE SEARCH: where the choice does not matter later -/
/-- what may be done at a level, given the row before it -/
def sop (way : Nat → Nat → Bool) (cl : Nat → Nat → Bool) (t : Nat) (r : Nat → Nat) (s : Nat) : Bool := way t s && kall (fun v => !(cl t v) || decide (s &&& r v = 0)) t
theorem sop_eq {way cl : Nat → Nat → Bool} {t : Nat} {r r2 : Nat → Nat} {s : Nat} (h : ∀ v, v < t → cl t v = true → r v = r2 v) : sop way cl t r s = sop way cl t r2 s := by
  unfold sop
  congr 1
  have : ∀ a b : Bool, (a = true ↔ b = true) → a = b := by decide
  apply this
  rw [kall_iff, kall_iff]
  constructor
  · intro g j hj
    have := g j hj
    by_cases c : cl t j = true
    · rw [h j hj c] at this; exact this
    · simp [c]
  · intro g j hj
    have := g j hj
    by_cases c : cl t j = true
    · rw [h j hj c]; exact this
    · simp [c]
/-- rows that differ only where nobody later looks give the same count -/
theorem sV_indep (way cl : Nat → Nat → Bool) : ∀ (d t : Nat) (r r2 : Nat → Nat), (∀ u v, t ≤ u → v < t → cl u v = true → r v = r2 v) → (sV (sop way cl) d t r).1 = (sV (sop way cl) d t r2).1
  | 0, _, _, _, _ => rfl
  | d + 1, t, r, r2, h => by
    have hs : ∀ s, (sV (sop way cl) d (t + 1) (su r t s)).1 = (sV (sop way cl) d (t + 1) (su r2 t s)).1 := by
      intro s
      refine sV_indep way cl d (t + 1) _ _ ?_
      intro u v hu hv hc
      unfold su
      by_cases e : v = t
      · rw [if_pos e, if_pos e]
      · rw [if_neg e, if_neg e]; exact h u v (by omega) (by omega) hc
    have ho : ∀ s, sop way cl t r s = sop way cl t r2 s := fun s => sop_eq (fun v hv hc => h t v (Nat.le_refl t) hv hc)
    rw [sV, sV]
    have key : ∀ m, (kfo (fun i b => if sop way cl t r (i + 1) then (if b.1 < (sV (sop way cl) d (t + 1) (su r t (i + 1))).1 + 1 then ((sV (sop way cl) d (t + 1) (su r t (i + 1))).1 + 1, (sV (sop way cl) d (t + 1) (su r t (i + 1))).2) else b) else b) m (sV (sop way cl) d (t + 1) (su r t 0))).1 = (kfo (fun i b => if sop way cl t r2 (i + 1) then (if b.1 < (sV (sop way cl) d (t + 1) (su r2 t (i + 1))).1 + 1 then ((sV (sop way cl) d (t + 1) (su r2 t (i + 1))).1 + 1, (sV (sop way cl) d (t + 1) (su r2 t (i + 1))).2) else b) else b) m (sV (sop way cl) d (t + 1) (su r2 t 0))).1 := by
      intro m
      induction m with
      | zero => exact hs 0
      | succ m ih =>
        rw [kfo, kfo, ho, hs, ih]
        split
        · split
          · rfl
          · exact ih
        · exact ih
    exact key 31
