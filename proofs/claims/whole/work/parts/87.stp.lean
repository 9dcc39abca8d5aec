set_option maxRecDepth 100000 in
theorem abs_all : ∀ x, x < 100 → ∀ u, u < 100 → absI (nI x - nI u) = nI (if u ≤ x then x - u else u - x) := by decide +kernel
theorem stp_nat {a b : Nat} (ha : a ≤ 9999) (hb : b ≤ 9999) : stpI (nI a) (nI b) = nI (pdist a b) := by
  have one : ∀ x, x ≤ 9999 → nI x / 100 = nI (x / 100) ∧ nI x - nI x / 100 * 100 = nI (x % 100) := fun x hx => by
    have e : nI x / 100 = nI (x / 100) := by rw [show (100 : Int32) = nI 100 from rfl, pk_div (by omega) (by decide) (by decide)]
    refine ⟨e, ?_⟩
    rw [e, show (100 : Int32) = nI 100 from rfl, pk_mul, pk_sub (by omega)]
    congr 1
    omega
  unfold stpI pdist wdist
  rw [(one a ha).2, (one b hb).2, (one a ha).1, (one b hb).1, abs_all _ (by omega) _ (by omega), abs_all _ (by omega) _ (by omega), nI_add]
