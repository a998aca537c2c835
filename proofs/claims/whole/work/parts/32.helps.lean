/-! HELPS: sets, loops with an early end, rows of both sides -/
def kset (f : Nat → Bool) : Nat → Nat
  | 0 => 0
  | n + 1 => kset f n + (if f n then 2 ^ n else 0)
theorem kset_lt (f : Nat → Bool) : ∀ n, kset f n < 2 ^ n
  | 0 => (by decide : (0 : Nat) < 1)
  | n + 1 => by
    have := kset_lt f n
    rw [kset, Nat.pow_succ]
    split <;> omega
theorem kset_lt32 (f : Nat → Bool) {n : Nat} (h : n ≤ 5) : kset f n < 32 := Nat.lt_of_lt_of_le (kset_lt f n) (Nat.pow_le_pow_right (by decide) h)
theorem kset_self : ∀ n, n < 6 → ∀ k, k < 2 ^ n → kset k.testBit n = k := by decide +kernel
theorem kset_congr {f g : Nat → Bool} : ∀ n, (∀ j, j < n → f j = g j) → kset f n = kset g n
  | 0, _ => rfl
  | n + 1, h => by rw [kset, kset, kset_congr n (fun j hj => h j (by omega)), h n (by omega)]
theorem kset_ext {f : Nat → Bool} {m m' : Nat} (hm : m ≤ m') (h : ∀ j, m ≤ j → j < m' → f j = false) : kset f m' = kset f m := by
  induction hm with
  | refl => rfl
  | step hle ih => rw [kset, h _ hle (by omega), ih (fun j h1 h2 => h j h1 (by omega))]; rfl
theorem kset_or1 : ∀ j, j < 5 → ∀ m, m < 2 ^ j → nI m ||| (1 <<< (nI j &&& 31)) = nI (m + 2 ^ j) := by decide +kernel
theorem kset_bit5 : ∀ a b c d e : Bool, ∀ p, p < 5 → Nat.testBit (0 + (if a then 2 ^ 0 else 0) + (if b then 2 ^ 1 else 0) + (if c then 2 ^ 2 else 0) + (if d then 2 ^ 3 else 0) + (if e then 2 ^ 4 else 0)) p = (if p = 0 then a else if p = 1 then b else if p = 2 then c else if p = 3 then d else e) := by decide +kernel
theorem kset_bit (f : Nat → Bool) {p : Nat} (hp : p < 5) : (kset f 5).testBit p = f p := by
  have := kset_bit5 (f 0) (f 1) (f 2) (f 3) (f 4) p hp
  show Nat.testBit (0 + (if f 0 then 2 ^ 0 else 0) + (if f 1 then 2 ^ 1 else 0) + (if f 2 then 2 ^ 2 else 0) + (if f 3 then 2 ^ 3 else 0) + (if f 4 then 2 ^ 4 else 0)) p = _
  rw [this]
  have : p = 0 ∨ p = 1 ∨ p = 2 ∨ p = 3 ∨ p = 4 := by omega
  rcases this with h | h | h | h | h <;> subst h <;> rfl
theorem kset_step (f : Nat → Bool) {j : Nat} (hj : j < 5) : (if f j then nI (kset f j) ||| (1 <<< (nI j &&& 31)) else nI (kset f j)) = nI (kset f (j + 1)) := by
  rw [kset]
  by_cases h : f j = true
  · rw [if_pos h, if_pos h, kset_or1 j hj _ (kset_lt f j)]
  · rw [if_neg h, if_neg h, Nat.add_zero]
/-- a loop that gathers a set -/
theorem kl_bits (L : Nat → Int32 → Int32 → Option Int32) (f : Nat → Bool) (m : Nat) (hm : m ≤ 5) {n : Nat} (hn : m < n) (h1 : ∀ n a, L (n + 1) a (nI m) = some a) (h2 : ∀ n a j, j < m → L (n + 1) a (nI j) = L n (if f j then a ||| (1 <<< (nI j &&& 31)) else a) (nI (j + 1))) : L n 0 0 = some (nI (kset f m)) := by
  obtain ⟨n', a', e1, p⟩ := kl_inv L (fun j b => b = nI (kset f j)) m (n := n) (a := 0) hn rfl (fun n b j hj hb => ⟨_, h2 n b j hj, by subst hb; exact kset_step f (by omega)⟩)
  rw [e1, h1, p]
def kall (c : Nat → Bool) : Nat → Bool
  | 0 => true
  | n + 1 => kall c n && c n
theorem kall_iff {c : Nat → Bool} : ∀ n, kall c n = true ↔ ∀ j, j < n → c j = true
  | 0 => ⟨fun _ j h => by omega, fun _ => rfl⟩
  | n + 1 => by
    rw [kall, Bool.and_eq_true, kall_iff n]
    refine ⟨fun h j hj => ?_, fun h => ⟨fun j hj => h j (by omega), h n (by omega)⟩⟩
    by_cases e : j = n
    · rw [e]; exact h.2
    · exact h.1 j (by omega)
/-- a loop that folds and ends early where something fails -/
theorem kl_all {α β : Type} (L : Nat → α → Int32 → Option β) (g : Nat → α → α) (c : Nat → Bool) (m : Nat) (e : α → Option β) (x : Option β) {n : Nat} {a : α} (hn : m < n) (h1 : ∀ n a, L (n + 1) a (nI m) = e a) (h2 : ∀ n a j, j < m → L (n + 1) a (nI j) = if c j then L n (g j a) (nI (j + 1)) else x) : L n a 0 = if kall c m then e (kfo g m a) else x := by
  have key : ∀ (d i n : Nat), i + d = m → d < n → kall c i = true → L n (kfo g i a) (nI i) = if kall c m then e (kfo g m a) else x := by
    intro d
    induction d with
    | zero =>
      intro i n hi hn hc
      obtain ⟨n, rfl⟩ : ∃ n', n = n' + 1 := ⟨n - 1, by omega⟩
      have : i = m := by omega
      subst this
      rw [h1, if_pos hc]
    | succ d ih =>
      intro i n hi hn hc
      obtain ⟨n, rfl⟩ : ∃ n', n = n' + 1 := ⟨n - 1, by omega⟩
      rw [h2 n _ i (by omega)]
      by_cases hci : c i = true
      · rw [if_pos hci]
        exact ih (i + 1) n (by omega) (by omega) (by rw [kall, hc, hci]; rfl)
      · rw [if_neg hci, if_neg]
        intro q
        exact hci ((kall_iff m).mp q i (by omega))
  exact key m 0 n (by omega) hn rfl
theorem kA_g {G : kg_G} {a i : Nat} (hL : jLn G) (ha : a ∈ kg_arrs) (hi : i < jLen a) : kv_g (G.2.1 a) (nI i) = some (kA G a i) := by
  have h := hL a ha
  refine kn_g (by omega) ?_
  rw [h]; unfold jLen; repeat' split
  all_goals omega
theorem kA_p {G : kg_G} {a i : Nat} {v : Int32} (hL : jLn G) (ha : a ∈ kg_arrs) (hi : i < jLen a) : kv_p (G.2.1 a) (nI i) v = some ((G.2.1 a).set i v) := by
  have h := hL a ha
  refine kn_p (by omega) ?_
  rw [h]; unfold jLen; repeat' split
  all_goals omega
theorem kn_2 (p : Nat) : 2 * nI p = nI (2 * p) := kn_mul 2 p
theorem kn_3 (p : Nat) : 3 * nI p = nI (3 * p) := kn_mul 3 p
theorem kn_4 (p : Nat) : 4 * nI p = nI (4 * p) := kn_mul 4 p
theorem kn_5 (p : Nat) : 5 * nI p = nI (5 * p) := kn_mul 5 p
theorem kn_16 (p : Nat) : 16 * nI p = nI (16 * p) := kn_mul 16 p
theorem kn_p2 (p : Nat) : nI p + 2 = nI (p + 2) := kn_add p 2
theorem kn_p3 (p : Nat) : nI p + 3 = nI (p + 3) := kn_add p 3
/-- a set below 32 is what it holds -/
theorem kb_out : ∀ m, m < 32 → ∀ f, f < 32 → ((nI m &&& (nI f ^^^ (-1))) = 0 ↔ m &&& f = m) := by decide +kernel
theorem kb_andb : ∀ m, m < 32 → ∀ f, f < 32 → (m &&& f = m ↔ ∀ p, p < 5 → m.testBit p = true → f.testBit p = true) := by decide +kernel
theorem kb_and0 : ∀ m, m < 32 → ∀ f, f < 32 → (nI m &&& nI f = 0 ↔ ∀ p, p < 5 → m.testBit p = true → f.testBit p = false) := by decide +kernel
theorem kb_hi : ∀ n, n < 6 → ∀ k, k < 2 ^ n → ∀ p, p < 5 → n ≤ p → k.testBit p = false := by decide +kernel
def jsu (q : tk_Q) (s : Int32) : Bool := !(decide (tk_suits q s = 0))
theorem jsu_if (q : tk_Q) (s : Int32) : tk_suits q s = if jsu q s then 1 else 0 := by
  unfold jsu tk_suits; repeat' split
  all_goals first | rfl | (simp at *)
/-- the sum of a set's strongs -/
def jsum (st : Nat → Int32) (m : Nat) : Int32 := kfo (fun p a => if m.testBit p then a + st p else a) 5 0
def jdone (q : tk_Q) (st : Nat → Int32) (m : Nat) : Bool := decide (fJ6_bitCount_0f7a4 (nI m) = tk_crew q) && kall (fun p => !(m.testBit p) || jsu q (st p)) 5 && !(decide (tk_holdsWith q (jsum st m) = 0))
