/-! A NEW OBJECT -/
theorem w5_0 (d : Nat) {k : Nat} (h : k ≠ 1) (j : Nat) : w5 d k j = 0 := if_neg fun z => h z.1
theorem inv_new (wd bw : Nat → Nat) : Inv 0 (fun _ => 0) wd bw (fun _ => none) (fun _ => 0) (w5 3650) := by
  refine ⟨⟨rfl, by decide, rfl, by decide, fun j hj => ⟨5, 0, if_pos ⟨rfl, hj⟩, by decide, w5_0 _ (by decide) _, by decide⟩⟩, fun t ht => absurd ht (Nat.not_lt_zero _), ⟨fun t _ _ => ⟨w5_0 _ (by decide) _, w5_0 _ (by decide) _, w5_0 _ (by decide) _⟩, fun t i _ _ _ => ⟨w5_0 _ (by decide) _, w5_0 _ (by decide) _, fun g _ => w5_0 _ (by decide) _⟩⟩, ⟨⟨fun _ => 0, fun j _ => w5_0 _ (by decide) _, fun f _ => (by show (0 : Nat) ≤ 400; decide)⟩, fun t ht => absurd ht (Nat.not_lt_zero _), fun t ht => absurd ht (Nat.not_lt_zero _)⟩, fun _ => 0, ⟨rfl, by decide, fun q _ => ⟨?_, Nat.zero_le _⟩, fun q _ _ => ⟨rfl, w5_0 _ (by decide) _, w5_0 _ (by decide) _⟩⟩, fun b hb => absurd hb (Nat.not_lt_zero _), fun q _ => ⟨0, w5_0 _ (by decide) _, by decide⟩, fun b _ _ => ⟨fun g _ => w5_0 _ (by decide) _, fun t _ => w5_0 _ (by decide) _⟩, fun i _ => fun b hb => absurd hb (Nat.not_lt_zero _), fun i _ => ⟨⟨0, w5_0 _ (by decide) _, ?_⟩, Or.inl (w5_0 _ (by decide) _), 0, w5_0 _ (by decide) _, by decide⟩⟩
  · show l_sum (fun g => w5 3650 18 (4 * q + g)) 4 = nI 0
    rw [ls4, w5_0 _ (by decide), w5_0 _ (by decide), w5_0 _ (by decide), w5_0 _ (by decide)]
    rfl
  · show 0 + (0 + 1000 * (200 - 0)) ≤ 200000
    decide
def ncode (k i : Nat) : Nat := if k < 4 then k else if k = 4 then 4 + i else if k = 5 then 10 + i else if k = 7 then 12 + i else if k = 8 then 14 else if k = 9 then 15 + i else if k = 10 then 20 else if k = 11 then 21 + i else if k = 13 then 27 else 28
def lvN (k i j : Nat) : Prop := (k < 4 ∧ i = 0 ∧ j = 0) ∨ (k = 4 ∧ i < 6 ∧ j = 0) ∨ (k = 5 ∧ i < 2 ∧ j = 0) ∨ (k = 7 ∧ i < 2 ∧ j = 0) ∨ (k = 8 ∧ i = 0 ∧ j = 0) ∨ (k = 9 ∧ i < 5 ∧ j = 0) ∨ (k = 10 ∧ i = 0 ∧ j = 0) ∨ (k = 11 ∧ i < 6 ∧ j = 0) ∨ (k = 13 ∧ i = 60 ∧ j = 0) ∨ (k = 14 ∧ i = 60 ∧ j = 0)
theorem lvN_of {k i j : Nat} (h : lvK (fun _ => 0) k i j) : lvN k i j := by
  unfold lvK at h
  unfold lvN
  split at h <;> (try dsimp only at h) <;> first | omega | exact h.elim
def ndec (n : Nat) : Nat × Nat := if n < 4 then (n, 0) else if n < 10 then (4, n - 4) else if n < 12 then (5, n - 10) else if n < 14 then (7, n - 12) else if n < 15 then (8, 0) else if n < 20 then (9, n - 15) else if n < 21 then (10, 0) else if n < 27 then (11, n - 21) else if n < 28 then (13, 60) else (14, 60)
theorem ncode_all {k i j : Nat} (h : lvN k i j) : ncode k i < 29 ∧ ndec (ncode k i) = (k, i) ∧ j = 0 := by
  unfold lvN at h
  rcases h with ⟨h1, h2, h3⟩ | ⟨h1, h2, h3⟩ | ⟨h1, h2, h3⟩ | ⟨h1, h2, h3⟩ | ⟨h1, h2, h3⟩ | ⟨h1, h2, h3⟩ | ⟨h1, h2, h3⟩ | ⟨h1, h2, h3⟩ | ⟨h1, h2, h3⟩ | ⟨h1, h2, h3⟩
  · subst h2
    have e : ncode k 0 = k := if_pos h1
    rw [e]
    exact ⟨by omega, if_pos h1, h3⟩
  all_goals subst h1
  · have : i = 0 ∨ i = 1 ∨ i = 2 ∨ i = 3 ∨ i = 4 ∨ i = 5 := by omega
    rcases this with rfl | rfl | rfl | rfl | rfl | rfl <;> exact ⟨by decide, rfl, h3⟩
  · have : i = 0 ∨ i = 1 := by omega
    rcases this with rfl | rfl <;> exact ⟨by decide, rfl, h3⟩
  · have : i = 0 ∨ i = 1 := by omega
    rcases this with rfl | rfl <;> exact ⟨by decide, rfl, h3⟩
  · subst h2; exact ⟨by decide, rfl, h3⟩
  · have : i = 0 ∨ i = 1 ∨ i = 2 ∨ i = 3 ∨ i = 4 := by omega
    rcases this with rfl | rfl | rfl | rfl | rfl <;> exact ⟨by decide, rfl, h3⟩
  · subst h2; exact ⟨by decide, rfl, h3⟩
  · have : i = 0 ∨ i = 1 ∨ i = 2 ∨ i = 3 ∨ i = 4 ∨ i = 5 := by omega
    rcases this with rfl | rfl | rfl | rfl | rfl | rfl <;> exact ⟨by decide, rfl, h3⟩
  · subst h2; exact ⟨by decide, rfl, h3⟩
  · subst h2; exact ⟨by decide, rfl, h3⟩
theorem ncode_inj {k i j k' i' j' : Nat} (h : lvN k i j) (h' : lvN k' i' j') (e : ncode k i = ncode k' i') : k = k' ∧ i = i' ∧ j = j' := by
  obtain ⟨-, a, a2⟩ := ncode_all h
  obtain ⟨-, b, b2⟩ := ncode_all h'
  have := a.symm.trans ((congrArg ndec e).trans b)
  exact ⟨congrArg Prod.fst this, congrArg Prod.snd this, a2.trans b2.symm⟩
