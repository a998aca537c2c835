/-! STRONGS: sets of ten -/
theorem kset_tb (f : Nat → Bool) : ∀ (n p : Nat), (kset f n).testBit p = (decide (p < n) && f p)
  | 0, p => by simp [kset]
  | n + 1, p => by
    have ih := kset_tb f n p
    have hl := kset_lt f n
    rw [kset]
    by_cases h1 : p < n
    · have e : decide (p < n + 1) = true := decide_eq_true (by omega)
      rw [decide_eq_true h1] at ih
      rw [e]
      split
      · rw [Nat.add_comm, Nat.testBit_two_pow_add_gt h1, ih]
      · rw [Nat.add_zero, ih]
    · by_cases h2 : p = n
      · subst h2
        have z : (kset f p).testBit p = false := Nat.testBit_lt_two_pow hl
        rw [decide_eq_true (show p < p + 1 by omega), Bool.true_and]
        by_cases hf : f p = true
        · rw [if_pos hf, Nat.add_comm, Nat.testBit_two_pow_add_eq, z, hf]; rfl
        · rw [if_neg hf, Nat.add_zero, z]; simpa using hf
      · have e : decide (p < n + 1) = false := decide_eq_false (by omega)
        rw [e, Bool.false_and]
        apply Nat.testBit_lt_two_pow
        have a1 : 2 ^ (n + 1) ≤ 2 ^ p := Nat.pow_le_pow_right (by decide) (by omega)
        rw [Nat.pow_succ] at a1
        split <;> omega
theorem nI_and (a b : Nat) : nI a &&& nI b = nI (a &&& b) := by
  unfold nI
  apply Int32.toBitVec_inj.mp
  simp [BitVec.ofNat_and]
theorem kset_and (f g : Nat → Bool) (n : Nat) : kset f n &&& kset g n = kset (fun s => f s && g s) n := by
  apply Nat.eq_of_testBit_eq
  intro p
  rw [Nat.testBit_and, kset_tb, kset_tb, kset_tb]
  cases decide (p < n) <;> simp
theorem kset_not (f : Nat → Bool) : ∀ n, kset f n + kset (fun s => !(f s)) n + 1 = 2 ^ n
  | 0 => rfl
  | n + 1 => by
    have := kset_not f n
    rw [kset, kset, Nat.pow_succ]
    cases f n <;> simp <;> omega
theorem k10_or : ∀ j, j < 10 → ∀ m, m < 2 ^ j → nI m ||| (1 <<< (nI j &&& 31)) = nI (m + 2 ^ j) := by decide +kernel
theorem k10_not : ∀ m, m < 1024 → 1023 &&& (nI m ^^^ (-1)) = nI (1023 - m) := by decide +kernel
def kpc (f : Nat → Bool) : Nat → Nat
  | 0 => 0
  | n + 1 => kpc f n + (if f n then 1 else 0)
theorem kpc_congr {f g : Nat → Bool} : ∀ n, (∀ j, j < n → f j = g j) → kpc f n = kpc g n
  | 0, _ => rfl
  | n + 1, h => by rw [kpc, kpc, kpc_congr n (fun j hj => h j (by omega)), h n (by omega)]
theorem kpc_split (f g : Nat → Bool) : ∀ n, kpc (fun s => f s && g s) n + kpc (fun s => f s && !(g s)) n = kpc f n
  | 0 => rfl
  | n + 1 => by
    have := kpc_split f g n
    rw [kpc, kpc, kpc]
    cases f n <;> cases g n <;> simp <;> omega
theorem kpc_le (f : Nat → Bool) : ∀ n, kpc f n ≤ n
  | 0 => Nat.le_refl 0
  | n + 1 => by
    have := kpc_le f n
    rw [kpc]; split <;> omega
theorem k10_bc : ∀ m, m < 1024 → fJ6_bitCount_0f7a4 (nI m) = nI (kpc m.testBit 10) := by decide +kernel
theorem k10_ones : ∀ m, m < 1024 → kfo (fun j a => a + ((nI m >>> (nI j &&& 31)) &&& 1)) 12 0 = nI (kpc m.testBit 10) := by decide +kernel
theorem k10_sh : ∀ m, m < 1024 → ∀ s, s < 10 → (nI m >>> (nI s &&& 31)) &&& 1 = if m.testBit s then 1 else 0 := by decide +kernel
theorem m_ones10 {N : Nat} (hN : 100 < N) {m : Nat} (hm : m < 1024) : fX11_ones N (nI m) = some (nI (kpc m.testBit 10)) := by
  refine Eq.trans (kl_fold (fun n a i => fX11_ones_4 N n (nI m) a i) (fun j a => a + ((nI m >>> (nI j &&& 31)) &&& 1)) 12 some (n := N) (by omega) ?_ ?_) (by rw [k10_ones m hm])
  · intro n a
    rfl
  · intro n a j hj
    show fX11_ones_4 N (n + 1) (nI m) a (nI j) = fX11_ones_4 N n (nI m) _ _
    have q1 : ¬ (12 : Int32) ≤ nI j := m_loop (m := 12) (by omega) hj
    rw [fX11_ones_4, if_neg q1, kn_succ]
theorem kset_lt10 (f : Nat → Bool) : kset f 10 < 1024 := kset_lt f 10
theorem k10_step (f : Nat → Bool) {j : Nat} (hj : j < 10) : (if f j then nI (kset f j) ||| (1 <<< (nI j &&& 31)) else nI (kset f j)) = nI (kset f (j + 1)) := by
  rw [kset]
  by_cases h : f j = true
  · rw [if_pos h, if_pos h, k10_or j hj _ (kset_lt f j)]
  · rw [if_neg h, if_neg h, Nat.add_zero]
def jfs (q : tk_Q) : Nat → Bool := fun s => jsu q (nI s)
theorem tk_ss_go (q : tk_Q) : ∀ (d i : Nat), i + d = 10 → tk_ss q d (nI (kset (jfs q) i)) (nI i) = nI (kset (jfs q) 10)
  | 0, i, h => by
    have : i = 10 := by omega
    subst this; rfl
  | d + 1, i, h => by
    have ih := tk_ss_go q d (i + 1) (by omega)
    rw [tk_ss, kn_succ]
    rw [← k10_step (jfs q) (show i < 10 by omega)] at ih
    rw [← ih, jsu_if]
    show tk_ss q d (if (if jfs q i = true then (1 : Int32) else 0) = 0 then _ else _) _ = _
    by_cases z : jfs q i = true
    · simp [z]
    · simp [z]
theorem jss_set (q : tk_Q) (b : Bool) : jss q b = nI (kset (fun s => jfs q s == b) 10) := by
  have e : tk_suitedStrongs q = nI (kset (jfs q) 10) := tk_ss_go q 10 0 rfl
  unfold jss
  cases b
  · rw [e, if_neg (by decide), k10_not _ (kset_lt10 _)]
    have := kset_not (jfs q) 10
    have a : kset (fun s => jfs q s == false) 10 = kset (fun s => !(jfs q s)) 10 := kset_congr 10 (fun j _ => by cases jfs q j <;> rfl)
    rw [a]
    congr 1
    have : (2 : Nat) ^ 10 = 1024 := rfl
    omega
  · rw [if_pos rfl, e]
    have a : kset (jfs q) 10 = kset (fun s => jfs q s == true) 10 := kset_congr 10 (fun j _ => by cases jfs q j <;> rfl)
    rw [a]
