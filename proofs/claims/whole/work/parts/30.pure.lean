/-! THE PURE SIDE: numbers, rows, loops -/
theorem kn_int {n : Nat} (h : n < 2147483648) : (nI n).toInt = n := by
  unfold nI
  rw [Int32.toInt_ofNat_of_lt (by omega)]
theorem kn_le {a b : Nat} (ha : a < 2147483648) (hb : b < 2147483648) : (nI a ≤ nI b) = (a ≤ b) := by
  rw [Int32.le_iff_toInt_le, kn_int ha, kn_int hb]; exact propext (by omega)
theorem kn_lt {a b : Nat} (ha : a < 2147483648) (hb : b < 2147483648) : (nI a < nI b) = (a < b) := by
  rw [Int32.lt_iff_toInt_lt, kn_int ha, kn_int hb]; exact propext (by omega)
theorem kn_eq {a b : Nat} (ha : a < 2147483648) (hb : b < 2147483648) : (nI a = nI b) = (a = b) := by
  refine propext ⟨fun h => ?_, fun h => by rw [h]⟩
  have := congrArg Int32.toInt h
  rw [kn_int ha, kn_int hb] at this; omega
theorem kn_neg {n : Nat} (h : n < 2147483648) : ¬ nI n < 0 := by
  have := kn_lt h (b := 0) (by omega)
  intro x
  have : n < 0 := this ▸ x
  omega
theorem kn_nat {n : Nat} (h : n < 2147483648) : (nI n).toNatClampNeg = n := by
  unfold Int32.toNatClampNeg; rw [kn_int h]; rfl
theorem kn_add (a b : Nat) : nI a + nI b = nI (a + b) := by unfold nI; rw [Int32.ofNat_add]
theorem kn_succ (a : Nat) : nI a + 1 = nI (a + 1) := kn_add a 1
theorem kn_mul (a b : Nat) : nI a * nI b = nI (a * b) := by unfold nI; rw [Int32.ofNat_mul]
theorem kn_g {xs : List Int32} {i : Nat} (h : i < xs.length) (hl : xs.length < 2147483648) : kv_g xs (nI i) = some (xs.getD i 0) := by
  unfold kv_g
  rw [if_neg (kn_neg (by omega)), kn_nat (by omega), List.getD_eq_getElem?_getD, List.getElem?_eq_getElem h]; rfl
theorem kn_p {xs : List Int32} {i : Nat} {v : Int32} (h : i < xs.length) (hl : xs.length < 2147483648) : kv_p xs (nI i) v = some (xs.set i v) := by
  unfold kv_p
  rw [if_neg (kn_neg (by omega)), kn_nat (by omega), if_pos h]
theorem kn_q {xs : List (Option Nat)} {i x : Nat} (h : xs[i]? = some (some x)) (hi : i < 2147483648) : kv_q xs (nI i) = some x := by
  unfold kv_q
  rw [if_neg (kn_neg hi), kn_nat hi, h]; rfl
/-- every int is small and not negative, or it is not in the way -/
theorem kn_of {x : Int32} (h : ¬ x < 0) : ∃ n, n < 2147483648 ∧ x = nI n := by
  refine ⟨x.toInt.toNat, ?_, ?_⟩
  · have := Int32.toInt_lt x; omega
  · have h0 : 0 ≤ x.toInt := by
      rw [Int32.lt_iff_toInt_lt] at h
      simpa using h
    apply Int32.toInt_inj.mp
    rw [kn_int (by have := Int32.toInt_lt x; omega)]; omega
/-- fold -/
def kfo {α : Type} (g : Nat → α → α) : Nat → α → α
  | 0, a => a
  | m + 1, a => g m (kfo g m a)
theorem kfo_congr {α : Type} {g g' : Nat → α → α} : ∀ (m : Nat) (a : α), (∀ j a, j < m → g j a = g' j a) → kfo g m a = kfo g' m a
  | 0, _, _ => rfl
  | m + 1, a, h => by rw [kfo, kfo, kfo_congr m a (fun j a hj => h j a (by omega)), h m _ (by omega)]
theorem kfo_ext {α : Type} {g : Nat → α → α} {m m' : Nat} (a : α) (hm : m ≤ m') (h : ∀ j a, m ≤ j → j < m' → g j a = a) : kfo g m' a = kfo g m a := by
  induction hm with
  | refl => rfl
  | step hle ih => rw [kfo, h _ _ hle (by omega), ih (fun j a h1 h2 => h j a h1 (by omega))]
theorem kfo_inv {α : Type} {g : Nat → α → α} (P : Nat → α → Prop) (m : Nat) (a : α) (h0 : P 0 a) (hs : ∀ j a, j < m → P j a → P (j + 1) (g j a)) : P m (kfo g m a) := by
  induction m with
  | zero => exact h0
  | succ m ih => exact hs m _ (by omega) (ih (fun j a hj => hs j a (by omega)))
theorem kl_go {α β : Type} (L : Nat → α → Int32 → Option β) (P : Nat → α → Prop) (m : Nat) (h2 : ∀ n a j, j < m → P j a → ∃ a', L (n + 1) a (nI j) = L n a' (nI (j + 1)) ∧ P (j + 1) a') : ∀ (d i n : Nat) (a : α), i + d = m → d ≤ n → P i a → ∃ a', L n a (nI i) = L (n - d) a' (nI m) ∧ P m a'
  | 0, i, n, a, hi, _, h => ⟨a, by subst hi; rfl, by subst hi; exact h⟩
  | d + 1, i, n, a, hi, hn, h => by
    obtain ⟨n, rfl⟩ : ∃ n', n = n' + 1 := ⟨n - 1, by omega⟩
    obtain ⟨a1, e1, p1⟩ := h2 n a i (by omega) h
    obtain ⟨a2, e2, p2⟩ := kl_go L P m h2 d (i + 1) n a1 (by omega) (by omega) p1
    exact ⟨a2, by rw [e1, e2, show n + 1 - (d + 1) = n - d by omega], p2⟩
/-- a loop that counts up, by its invariant -/
theorem kl_inv {α β : Type} (L : Nat → α → Int32 → Option β) (P : Nat → α → Prop) (m : Nat) {n : Nat} {a : α} (hn : m < n) (h0 : P 0 a) (h2 : ∀ n a j, j < m → P j a → ∃ a', L (n + 1) a (nI j) = L n a' (nI (j + 1)) ∧ P (j + 1) a') : ∃ n' a', L n a 0 = L (n' + 1) a' (nI m) ∧ P m a' := by
  obtain ⟨a', e, p⟩ := kl_go L P m h2 m 0 n a (by omega) (by omega) h0
  exact ⟨n - m - 1, a', by rw [show n - m - 1 + 1 = n - m by omega]; exact e, p⟩
/-- a loop that counts up and only folds -/
theorem kl_fold {α β : Type} (L : Nat → α → Int32 → Option β) (g : Nat → α → α) (m : Nat) (e : α → Option β) {n : Nat} {a : α} (hn : m < n) (h1 : ∀ n a, L (n + 1) a (nI m) = e a) (h2 : ∀ n a j, j < m → L (n + 1) a (nI j) = L n (g j a) (nI (j + 1))) : L n a 0 = e (kfo g m a) := by
  obtain ⟨n', a', e1, p⟩ := kl_inv L (fun j b => b = kfo g j a) m (n := n) (a := a) hn rfl (fun n b j hj hb => ⟨g j b, h2 n b j hj, by subst hb; rfl⟩)
  rw [e1, h1, p]
theorem kN_pos : kN = 999999999999 + 1 := rfl
/-- sets of at most five -/
theorem kb_has : ∀ m, m < 32 → ∀ p, p < 5 → fX10_has (nI m) (nI p) = (if m.testBit p then 1 else 0) := by decide +kernel
theorem kb_sh : ∀ m, m < 32 → ∀ p, p < 5 → (nI m >>> (nI p &&& 31)) &&& 1 = (if m.testBit p then 1 else 0) := by decide +kernel
theorem kb_or : ∀ m, m < 32 → ∀ p, p < 5 → nI m ||| (1 <<< (nI p &&& 31)) = nI (m ||| 2 ^ p) ∧ m ||| 2 ^ p < 32 := by decide +kernel
theorem kb_and : ∀ m, m < 32 → ∀ p, p < 5 → nI m &&& ((1 <<< (nI p &&& 31)) ^^^ (-1)) = nI (m &&& (31 - 2 ^ p)) ∧ m &&& (31 - 2 ^ p) < 32 := by decide +kernel
theorem kb_sub : ∀ m, m < 32 → ∀ p, p < 5 → m.testBit p → nI m - (1 <<< (nI p &&& 31)) = nI (m &&& (31 - 2 ^ p)) := by decide +kernel
