/-! STEPS THAT MAKE CELLS: addresses change at some keys -/
def upA (ad : YA) (k i j v : Nat) : YA := fun k' i' j' => if k' = k ∧ i' = i ∧ j' = j then v else ad k' i' j'
def agrR (ad ad' : YA) (cp cp' L L' wd wd' bw bw' : Nat → Nat) (lb : Nat → Option Nat) (k i j : Nat) : Prop := match k with
  | 0 => ad' 1 0 0 = ad 1 0 0 ∧ ad' 2 0 0 = ad 2 0 0 ∧ ad' 3 0 0 = ad 3 0 0 ∧ ad' 5 0 0 = ad 5 0 0 ∧ ad' 5 1 0 = ad 5 1 0 ∧ ad' 7 0 0 = ad 7 0 0 ∧ ad' 8 0 0 = ad 8 0 0
  | 3 => six ad' 4 = six ad 4
  | 4 => ∀ b, lb i = some b → ad' 15 b 0 = ad 15 b 0
  | 5 => L' i = L i ∧ (L i = 0 ∨ ad' 6 i 0 = ad 6 i 0)
  | 6 => cp' i = cp i ∧ ldat ad' L' i = ldat ad L i
  | 8 => ad' 9 0 0 = ad 9 0 0 ∧ ad' 9 1 0 = ad 9 1 0 ∧ ad' 10 0 0 = ad 10 0 0 ∧ ad' 9 2 0 = ad 9 2 0 ∧ ad' 9 3 0 = ad 9 3 0 ∧ ad' 9 4 0 = ad 9 4 0 ∧ ad' 13 60 0 = ad 13 60 0 ∧ ad' 7 1 0 = ad 7 1 0
  | 10 => six ad' 11 = six ad 11
  | 12 => ad' 4 (wd' i) 0 = ad 4 (wd i) 0 ∧ ad' 5 (2 + i) 0 = ad 5 (2 + i) 0
  | 13 => ad' 14 i j = ad 14 i j
  | 15 => ad' 4 (bw' i) 0 = ad 4 (bw i) 0 ∧ ad' 16 i 0 = ad 16 i 0 ∧ ad' 17 i 0 = ad 17 i 0
  | _ => True
theorem cst_agrR {G : XG} {ad ad' : YA} {E E' : YE} {cp cp' L L' wd wd' bw bw' : Nat → Nat} {lb lb' : Nat → Option Nat} {I I' : Nat → Int32} {F F' : Nat → Nat → Int32} {k i j : Nat} (h : agr E E' lb lb' I I' F F' k i j) (h2 : agrR ad ad' cp cp' L L' wd wd' bw bw' lb k i j) : cst G ad' E' cp' L' wd' bw' lb' I' F' k i j = cst G ad E cp L wd bw lb I F k i j := by
  refine Eq.trans ?_ (cst_agr h)
  unfold agr at h
  unfold cst
  split
  case h_1 => obtain ⟨h1, h2, h3, h4, h5, h6, h7⟩ := h2; rw [h1, h2, h3, h4, h5, h6, h7]
  case h_4 => have h2 : six ad' 4 = six ad 4 := h2; rw [h2]
  case h_5 =>
    have h2 : ∀ b, lb i = some b → ad' 15 b 0 = ad 15 b 0 := h2
    have hl : lb' i = lb i := h.2.2.2.2
    rw [hl]
    cases hb : lb i with
    | none => rfl
    | some b => simp only [Option.map_some, h2 b hb]
  case h_6 =>
    obtain ⟨h1, h3⟩ : L' i = L i ∧ (L i = 0 ∨ ad' 6 i 0 = ad 6 i 0) := h2
    rw [h1]
    rcases h3 with h3 | h3
    · rw [if_pos h3, if_pos h3]
    · rw [h3]
  case h_7 => obtain ⟨h1, h3⟩ : cp' i = cp i ∧ ldat ad' L' i = ldat ad L i := h2; rw [h1, h3]
  case h_9 => obtain ⟨h1, h2, h3, h4, h5, h6, h7, h8⟩ := h2; rw [h1, h2, h3, h4, h5, h6, h7, h8]
  case h_11 => have h2 : six ad' 11 = six ad 11 := h2; rw [h2]
  case h_13 => obtain ⟨h1, h3⟩ : ad' 4 (wd' i) 0 = ad 4 (wd i) 0 ∧ ad' 5 (2 + i) 0 = ad 5 (2 + i) 0 := h2; rw [h1, h3]
  case h_14 => have h2 : ad' 14 i j = ad 14 i j := h2; rw [h2]
  case h_16 => obtain ⟨h1, h3, h4⟩ : ad' 4 (bw' i) 0 = ad 4 (bw i) 0 ∧ ad' 16 i 0 = ad 16 i 0 ∧ ad' 17 i 0 = ad 17 i 0 := h2; rw [h1, h3, h4]
  all_goals rfl
/-- each cell is an old one at its place, or new; the new ones are apart -/
theorem Rep.grow {G : XG} {w u : XW} {ad ad' : YA} {E E' : YE} {cp cp' L L' wd wd' bw bw' : Nat → Nat} {lb lb' : Nat → Option Nat} {I I' : Nat → Int32} {F F' : Nat → Nat → Int32} (h : Rep G w ad E cp L wd bw lb I F)
    (hK : ∀ k i j, lvK L' k i j → (lvK L k i j ∧ ad' k i j = ad k i j) ∨ w (ad' k i j) = none)
    (hf : ∀ k i j k' i' j', lvK L' k i j → lvK L' k' i' j' → w (ad' k i j) = none → w (ad' k' i' j') = none → ad' k i j = ad' k' i' j' → k = k' ∧ i = i' ∧ j = j')
    (X : Nat → Nat → Nat → Prop) (hX : ∀ k i j, lvK L' k i j → X k i j → u (ad' k i j) = some (cst G ad' E' cp' L' wd' bw' lb' I' F' k i j))
    (hY : ∀ k i j, lvK L' k i j → ¬ X k i j → lvK L k i j ∧ ad' k i j = ad k i j ∧ u (ad k i j) = w (ad k i j) ∧ agr E E' lb lb' I I' F F' k i j ∧ agrR ad ad' cp cp' L L' wd wd' bw bw' lb k i j)
    (hc : ∀ i, i < 2 + L' 0 → L' i ≤ cp' i ∧ 1 ≤ cp' i ∧ cp' i ≤ 300) : Rep G u ad' E' cp' L' wd' bw' lb' I' F' := by
  refine ⟨fun k i j hk => ?_, fun k i j k' i' j' h1 h2 he => ?_, hc⟩
  · by_cases hx : X k i j
    · exact hX k i j hk hx
    · obtain ⟨a1, a2, a3, a4, a5⟩ := hY k i j hk hx
      rw [a2, a3, h.1 k i j a1, cst_agrR a4 a5]
  · rcases hK k i j h1 with ⟨a1, a2⟩ | a1
    · rcases hK k' i' j' h2 with ⟨b1, b2⟩ | b1
      · rw [a2, b2] at he
        exact h.2.1 _ _ _ _ _ _ a1 b1 he
      · rw [← he, a2, h.1 k i j a1] at b1
        cases b1
    · rcases hK k' i' j' h2 with ⟨b1, b2⟩ | b1
      · rw [he, b2, h.1 k' i' j' b1] at a1
        cases a1
      · exact hf _ _ _ _ _ _ h1 h2 a1 b1 he
theorem upA_at (ad : YA) (k i j v : Nat) : upA ad k i j v k i j = v := if_pos ⟨rfl, rfl, rfl⟩
theorem upA_k (ad : YA) {k : Nat} (i j v : Nat) {k' : Nat} (i' j' : Nat) (h : k' ≠ k) : upA ad k i j v k' i' j' = ad k' i' j' := if_neg (fun z => h z.1)
theorem upA_i (ad : YA) (k : Nat) {i : Nat} (j v k' : Nat) {i' : Nat} (j' : Nat) (h : i' ≠ i) : upA ad k i j v k' i' j' = ad k' i' j' := if_neg (fun z => h z.2.1)
theorem upA_j (ad : YA) (k i : Nat) {j : Nat} (v k' i' : Nat) {j' : Nat} (h : j' ≠ j) : upA ad k i j v k' i' j' = ad k' i' j' := if_neg (fun z => h z.2.2)
