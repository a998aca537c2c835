/-! THE SEARCH, as what it is: the first best row -/
def su (r : Nat → Nat) (t s : Nat) : Nat → Nat := fun u => if u = t then s else r u
/-- best of the levels left: how many are done, and the row -/
def sV (op : Nat → (Nat → Nat) → Nat → Bool) : Nat → Nat → (Nat → Nat) → Nat × (Nat → Nat)
  | 0, _, r => (0, r)
  | d + 1, t, r => kfo (fun i b => if op t r (i + 1) then (if b.1 < (sV op d (t + 1) (su r t (i + 1))).1 + 1 then ((sV op d (t + 1) (su r t (i + 1))).1 + 1, (sV op d (t + 1) (su r t (i + 1))).2) else b) else b) 31 (sV op d (t + 1) (su r t 0))
/-- a better one is kept -/
def svis (b x : Int × (Nat → Nat)) : Int × (Nat → Nat) := if b.1 < x.1 then x else b
theorem svis_assoc (a b c : Int × (Nat → Nat)) : svis (svis a b) c = svis a (svis b c) := by
  unfold svis
  by_cases h1 : a.1 < b.1
  · rw [if_pos h1]
    by_cases h2 : b.1 < c.1
    · rw [if_pos h2, if_pos (by omega)]
    · rw [if_neg h2, if_pos h1]
  · rw [if_neg h1]
    by_cases h2 : b.1 < c.1
    · rw [if_pos h2]
    · rw [if_neg h2, if_neg h1, if_neg (by omega)]
/-- the levels left, counted from cnt on -/
def sW (op : Nat → (Nat → Nat) → Nat → Bool) (d t : Nat) (cnt : Int) (r : Nat → Nat) : Int × (Nat → Nat) := (cnt + ((sV op d t r).1 : Int), (sV op d t r).2)
theorem sW_succ (op : Nat → (Nat → Nat) → Nat → Bool) (d t : Nat) (cnt : Int) (r : Nat → Nat) (b : Int × (Nat → Nat)) : svis b (sW op (d + 1) t cnt r) = kfo (fun i b => if op t r (i + 1) then svis b (sW op d (t + 1) (cnt + 1) (su r t (i + 1))) else b) 31 (svis b (sW op d (t + 1) cnt (su r t 0))) := by
  have key : ∀ m, svis b (cnt + (((kfo (fun i b => if op t r (i + 1) then (if b.1 < (sV op d (t + 1) (su r t (i + 1))).1 + 1 then ((sV op d (t + 1) (su r t (i + 1))).1 + 1, (sV op d (t + 1) (su r t (i + 1))).2) else b) else b) m (sV op d (t + 1) (su r t 0))).1 : Nat) : Int), (kfo (fun i b => if op t r (i + 1) then (if b.1 < (sV op d (t + 1) (su r t (i + 1))).1 + 1 then ((sV op d (t + 1) (su r t (i + 1))).1 + 1, (sV op d (t + 1) (su r t (i + 1))).2) else b) else b) m (sV op d (t + 1) (su r t 0))).2) = kfo (fun i b => if op t r (i + 1) then svis b (sW op d (t + 1) (cnt + 1) (su r t (i + 1))) else b) m (svis b (sW op d (t + 1) cnt (su r t 0))) := by
    intro m
    induction m with
    | zero => rfl
    | succ m ih =>
      rw [kfo, kfo, ← ih]
      generalize kfo (fun i b => if op t r (i + 1) then (if b.1 < (sV op d (t + 1) (su r t (i + 1))).1 + 1 then ((sV op d (t + 1) (su r t (i + 1))).1 + 1, (sV op d (t + 1) (su r t (i + 1))).2) else b) else b) m (sV op d (t + 1) (su r t 0)) = y
      by_cases h : op t r (m + 1) = true
      · rw [if_pos h, if_pos h, svis_assoc]
        congr 1
        unfold svis sW
        generalize sV op d (t + 1) (su r t (m + 1)) = x
        by_cases g : y.1 < x.1 + 1
        · rw [if_pos g, if_pos (by show cnt + (y.1 : Int) < cnt + 1 + (x.1 : Int); omega)]
          show (cnt + ((x.1 + 1 : Nat) : Int), x.2) = (cnt + 1 + (x.1 : Int), x.2)
          congr 1
          omega
        · rw [if_neg g, if_neg (by show ¬ cnt + (y.1 : Int) < cnt + 1 + (x.1 : Int); omega)]
      · rw [if_neg h, if_neg h]
  exact key 31
/-- no more than the levels left -/
theorem sV_le (op : Nat → (Nat → Nat) → Nat → Bool) : ∀ (d t : Nat) (r : Nat → Nat), (sV op d t r).1 ≤ d
  | 0, _, _ => Nat.le_refl 0
  | d + 1, t, r => by
    rw [sV]
    refine kfo_inv (fun _ (b : Nat × (Nat → Nat)) => b.1 ≤ d + 1) 31 _ (Nat.le_succ_of_le (sV_le op d (t + 1) _)) ?_
    intro j a hj ha
    show (if op t r (j + 1) then (if a.1 < (sV op d (t + 1) (su r t (j + 1))).1 + 1 then ((sV op d (t + 1) (su r t (j + 1))).1 + 1, (sV op d (t + 1) (su r t (j + 1))).2) else a) else a).1 ≤ d + 1
    have := sV_le op d (t + 1) (su r t (j + 1))
    split
    · split
      · show _ + 1 ≤ d + 1
        omega
      · exact ha
    · exact ha
