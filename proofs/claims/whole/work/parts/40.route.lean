/-! THE ROUTE -/
theorem r_81 (N : Nat) (G : kg_G) (k : Int32 → Int32 → Int32 → Int32 → Int32 → Option Int32) : ∀ n, fX11_routeOf_81 N G k n = fX11_routeOf_81 N kg_0 k n
  | 0 => rfl
  | n + 1 => by
    funext l2 l3 l4 l5 l6 l7
    simp only [fX11_routeOf_81, fX11_routeOf_116, fX11_routeOf_135, fX11_routeOf_147, fX11_routeOf_168, fX11_routeOf_176, fX11_routeOf_195, r_81 N G k n]
theorem r_71 (N : Nat) (G : kg_G) : ∀ n, fX11_routeOf_71 N G n = fX11_routeOf_71 N kg_0 n
  | 0 => rfl
  | n + 1 => by
    funext l2 l3 l4 l5 l6
    simp only [fX11_routeOf_71, r_71 N G n, r_81 N G]
def kmv (M : Nat) : Int32 := ((fX10_fewestMoves kN (nI M)).getD 0)
def kfm (M : Nat) : Int32 := ((fX10_firstMove kN (nI M)).getD 0)
theorem r_all : ∀ M, M < 64 → M ≠ 0 → fX11_routeOf_71 kN kg_0 kN 0 (nI M) 99 (-1) 0 = some (kmv M) ∧ fX11_routeOf_71 kN kg_0 kN 1 (nI M) 99 (-1) 0 = some (kfm M) ∧ fX10_fewestMoves kN (nI M) = some (kmv M) ∧ fX10_firstMove kN (nI M) = some (kfm M) := by decide +kernel
theorem r_or : ∀ M, M < 64 → ∀ a, a < 6 → ∀ b, b < 6 → nI M ||| (1 <<< ((((nI a - nI b) + 6) - ((nI a - nI b) + 6) / 6 * 6) &&& 31)) = nI (M ||| 2 ^ ((a + 6 - b) % 6)) := by decide +kernel
theorem r_orx : ∀ M, M < 64 → ∀ a, a < 6 → ∀ b, b < 6 → (fJ9_floorMod_7cf53 (nI a - nI b) 6).bind (fun v => some (nI M ||| (1 <<< (v &&& 31)))) = some (nI (M ||| 2 ^ ((a + 6 - b) % 6))) := by decide +kernel
theorem r_lt : ∀ M, M < 64 → ∀ a, a < 6 → M ||| 2 ^ a < 64 ∧ M ||| 2 ^ a ≠ 0 := by decide +kernel
