/-! FAULT, second: people's letters; the first place that is not good -/
theorem kn_sub {a b : Nat} (h : b ≤ a) : nI a - nI b = nI (a - b) := by
  have : nI a = nI (a - b) + nI b := by rw [kn_add]; congr 1; omega
  rw [this, Int32.add_sub_cancel]
def kffg (good : Nat → Bool) : Nat → Nat → Nat
  | 0, j => j
  | d + 1, j => if good j then kffg good d (j + 1) else j
theorem kl_first {β : Type} (L : Nat → Int32 → Option β) (good : Nat → Bool) (n : Nat) (e : Nat → Option β) (h1 : ∀ m, L (m + 1) (nI n) = e n) (h2 : ∀ m j, j < n → L (m + 1) (nI j) = if good j then L m (nI (j + 1)) else e j) : ∀ (d j m : Nat), j + d = n → d < m → L m (nI j) = e (kffg good d j)
  | 0, j, m, h, hm => by
    obtain ⟨m, rfl⟩ : ∃ m', m = m' + 1 := ⟨m - 1, by omega⟩
    have : j = n := by omega
    subst this
    exact h1 m
  | d + 1, j, m, h, hm => by
    obtain ⟨m, rfl⟩ : ∃ m', m = m' + 1 := ⟨m - 1, by omega⟩
    rw [h2 m j (by omega), kffg]
    split
    · exact kl_first L good n e h1 h2 d (j + 1) m (by omega) (by omega)
    · rfl
section JFB
variable {G : kg_G}
theorem g_j2 (r : Nat) (h : r < 2) : (nI r = 0) = (r = 0) := kn_eq (a := r) (b := 0) (by omega) (by omega)
theorem x_isOfPeople {i te c : Nat} (hi : i < 36) (ht : te < i) (hc : kv_g (G.2.1 2) (nI i) = some (nI c)) (hc127 : c < 127) : fX2_isOfPeople G (nI i) (nI te) = some (if gP (i - te - 1) c then 1 else 0) := by
  have e1 : (nI i - nI te) - 1 = nI (i - te - 1) := by
    rw [kn_sub (by omega)]
    exact kn_sub (a := i - te) (b := 1) (by omega)
  have t1 : ((10 : Int32) ≤ nI (i - te - 1)) = (10 ≤ i - te - 1) := kn_le (a := 10) (b := i - te - 1) (by omega) (by omega)
  obtain ⟨_, _, d3, d4⟩ := g_dig c hc127
  unfold fX2_isOfPeople fX2_isOfPeople_27 gP
  simp only [e1, t1, g_mod2 (i - te - 1) (by omega), g_j2 _ (Nat.mod_lt _ (by decide)), x_digit hi hc, d3, d4, Option.bind_some]
  by_cases z : 10 ≤ i - te - 1
  · simp [z]
  · by_cases y : (i - te - 1) % 2 = 0
    · simp only [z, y, if_false, if_true]
      cases gD c 48 57 <;> simp
    · simp only [z, y, if_false]
      cases gD c 48 53 <;> simp
end JFB
