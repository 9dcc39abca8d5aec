/-! a tree comes -/
def trL (L : Nat → Nat) : Nat → Nat := va_up (va_up L 0 (L 0 + 1)) (2 + L 0) 0
theorem trL_0 (L : Nat → Nat) : trL L 0 = L 0 + 1 := by
  unfold trL
  rw [upN_ne _ _ (by omega), upN_at]
theorem trL_n (L : Nat → Nat) : trL L (2 + L 0) = 0 := upN_at _ _ _
theorem trL_o (L : Nat → Nat) {q : Nat} (h : q ≠ 0) (h2 : q ≠ 2 + L 0) : trL L q = L q := by
  unfold trL
  rw [upN_ne _ _ h2, upN_ne _ _ h]
theorem live_tree {L : Nat → Nat} {k i j : Nat} (hk : lvK (trL L) k i j) (h1 : ¬ (k = 12 ∧ i = L 0)) (h2 : ¬ (k = 5 ∧ i = 2 + L 0)) (h3 : ¬ (k = 6 ∧ i = 0)) : lvK L k i j := by
  have e0 := trL_0 L
  have e1 : trL L 1 = L 1 := trL_o L (by decide) (by omega)
  unfold lvK at hk ⊢
  split at hk
  case h_6 =>
    obtain ⟨a, b⟩ := hk
    rw [e0] at a
    have : i ≠ 2 + L 0 := fun z => h2 ⟨rfl, z⟩
    exact ⟨by omega, b⟩
  case h_7 =>
    obtain ⟨a, b, c⟩ := hk
    rw [e0] at a
    by_cases q : i = 2 + L 0
    · rw [q, trL_n] at c
      omega
    · rw [trL_o L (fun z => h3 ⟨rfl, z⟩) q] at c
      exact ⟨by omega, b, c⟩
  case h_13 =>
    obtain ⟨a, b⟩ := hk
    rw [e0] at a
    have : i ≠ L 0 := fun z => h1 ⟨rfl, z⟩
    exact ⟨by omega, b⟩
  case h_14 =>
    rcases hk with ⟨a, b⟩ | hk
    · rw [e0] at a
      by_cases q : i = L 0
      · rw [q, trL_n] at b
        omega
      · rw [trL_o L (by omega) (by omega)] at b
        exact Or.inl ⟨by omega, b⟩
    · exact Or.inr hk
  case h_15 =>
    rcases hk with ⟨a, b⟩ | hk
    · rw [e0] at a
      by_cases q : i = L 0
      · rw [q, trL_n] at b
        omega
      · rw [trL_o L (by omega) (by omega)] at b
        exact Or.inl ⟨by omega, b⟩
    · exact Or.inr hk
  all_goals (try rw [e1] at hk); exact hk
def trA (ad : YA) (n tq fl q : Nat) : YA := upA (upA (upA ad 12 n 0 tq) 5 (2 + n) 0 fl) 6 0 0 q
theorem trA_12 (ad : YA) (n tq fl q : Nat) : trA ad n tq fl q 12 n 0 = tq := by
  unfold trA
  rw [upA_k _ _ _ _ _ _ (by decide), upA_k _ _ _ _ _ _ (by decide), upA_at]
theorem trA_5 (ad : YA) (n tq fl q : Nat) : trA ad n tq fl q 5 (2 + n) 0 = fl := by
  unfold trA
  rw [upA_k _ _ _ _ _ _ (by decide), upA_at]
theorem trA_6 (ad : YA) (n tq fl q : Nat) : trA ad n tq fl q 6 0 0 = q := upA_at _ _ _ _ _
theorem trA_o (ad : YA) (n tq fl q : Nat) {k i j : Nat} (h1 : ¬ (k = 12 ∧ i = n ∧ j = 0)) (h2 : ¬ (k = 5 ∧ i = 2 + n ∧ j = 0)) (h3 : ¬ (k = 6 ∧ i = 0 ∧ j = 0)) : trA ad n tq fl q k i j = ad k i j := by
  unfold trA upA
  rw [if_neg h3, if_neg h2, if_neg h1]
theorem tree_K {G : XG} {w : XW} {ad : YA} {E : YE} {cp L wd bw : Nat → Nat} {lb : Nat → Option Nat} {I : Nat → Int32} {F : Nat → Nat → Int32} (hR : Rep G w ad E cp L wd bw lb I F) (hz12 : w (G.2 12) = none) {tq fl q : Nat} (hq1 : w tq = none) (hq2 : w fl = none) (hq4 : w q = none ∨ (q = (if L 0 = 0 then G.2 12 else ad 6 0 0) ∧ ∃ cap, w (if L 0 = 0 then G.2 12 else ad 6 0 0) = some (.inl (G.2 4, cap, .inr (.inr (.inr (.inr (ldat ad L 0)))))))) :
    ∀ k i j, lvK (trL L) k i j → (lvK L k i j ∧ trA ad (L 0) tq fl q k i j = ad k i j) ∨ (w (trA ad (L 0) tq fl q k i j) = none ∧ ((k = 12 ∧ i = L 0 ∧ j = 0) ∨ (k = 5 ∧ i = 2 + L 0 ∧ j = 0) ∨ (k = 6 ∧ i = 0 ∧ j = 0))) := fun k i j hk => by
  by_cases b1 : k = 12 ∧ i = L 0
  · obtain ⟨rfl, rfl⟩ := b1
    have hj : j = 0 := hk.2
    subst hj
    exact Or.inr ⟨by rw [trA_12]; exact hq1, Or.inl ⟨rfl, rfl, rfl⟩⟩
  · by_cases b2 : k = 5 ∧ i = 2 + L 0
    · obtain ⟨rfl, rfl⟩ := b2
      have hj : j = 0 := hk.2
      subst hj
      exact Or.inr ⟨by rw [trA_5]; exact hq2, Or.inr (Or.inl ⟨rfl, rfl, rfl⟩)⟩
    · by_cases b3 : k = 6 ∧ i = 0
      · obtain ⟨rfl, rfl⟩ := b3
        have hj : j = 0 := hk.2.1
        subst hj
        rcases hq4 with hq4 | ⟨hq4, cap, h4⟩
        · exact Or.inr ⟨by rw [trA_6]; exact hq4, Or.inr (Or.inr ⟨rfl, rfl, rfl⟩)⟩
        · by_cases hl : L 0 = 0
          · rw [if_pos hl, hz12] at h4
            cases h4
          · rw [if_neg hl] at hq4
            exact Or.inl ⟨⟨by omega, rfl, by omega⟩, by rw [trA_6, hq4]⟩
      · exact Or.inl ⟨live_tree hk b1 b2 b3, trA_o ad _ _ _ _ (fun z => b1 ⟨z.1, z.2.1⟩) (fun z => b2 ⟨z.1, z.2.1⟩) (fun z => b3 ⟨z.1, z.2.1⟩)⟩
theorem rep_tree {G : XG} {w u : XW} {ad : YA} {E : YE} {cp L wd bw : Nat → Nat} {lb : Nat → Option Nat} {I : Nat → Int32} {F : Nat → Nat → Int32} (hR : Rep G w ad E cp L wd bw lb I F) (h60 : L 0 < 60) (hZ : IvZ L F) (hz12 : w (G.2 12) = none) {tq fl q c1 wn : Nat} {fn : Nat → Option Nat} {wd0 x y g : Int32}
    (hq1 : w tq = none) (hq2 : w fl = none) (hq3 : tq ≠ fl) (hq4 : w q = none ∨ (q = (if L 0 = 0 then G.2 12 else ad 6 0 0) ∧ ∃ cap, w (if L 0 = 0 then G.2 12 else ad 6 0 0) = some (.inl (G.2 4, cap, .inr (.inr (.inr (.inr (ldat ad L 0)))))))) (hq5 : q ≠ tq) (hq6 : q ≠ fl)
    (hf1 : fn (L 0) = some tq) (hf2 : ∀ j, j < L 0 → fn j = ldat ad L 0 j) (hf3 : ∀ j, L 0 < j → fn j = none) (hc1 : L 0 + 1 ≤ c1) (hc2 : c1 ≤ 300)
    (hu1 : u tq = some (.inr (5, [.int (nI (L 0)), .ref (ad 4 wn 0), .int (x * 100 + y), .int (bearI g), .ref fl, .int 0, .int 0])))
    (hu2 : u fl = some (.inr (0, [.int 0, .ref (G.2 12), .int 0])))
    (hu4 : u (ad 5 0 0) = some (.inr (0, [.int (E 5 0 0 0 + 1), .ref q, .int (nI (L 0 + 1))]))) (hu5 : u q = some (.inl (G.2 4, c1, .inr (.inr (.inr (.inr fn))))))
    (hfr : ∀ z, z ≠ tq → z ≠ fl → z ≠ ad 5 0 0 → z ≠ q → u z = w z) :
    Rep G u (trA ad (L 0) tq fl q) (upE (upE E 5 0 0 0 (E 5 0 0 0 + 1)) 5 (2 + L 0) 0 0 0) (va_up (va_up cp 0 c1) (2 + L 0) 1) (trL L) (va_up wd (L 0) wn) bw lb (va_up I 3 (nI (L 0 + 1)))
      (setA (setA (setA (setA F 4 (L 0) wd0) 5 (L 0) x) 6 (L 0) y) 7 (L 0) g) := by
  have hK := tree_K hR hz12 hq1 hq2 hq4
  have wsome : ∀ k i j, lvK L k i j → w (ad k i j) ≠ none := fun k i j hk z => by rw [hR.1 k i j hk] at z; cases z
  obtain ⟨ad', hadx⟩ : ∃ z, z = trA ad (L 0) tq fl q := ⟨_, rfl⟩
  have a12 := trA_12 ad (L 0) tq fl q
  have a5 := trA_5 ad (L 0) tq fl q
  have a6 := trA_6 ad (L 0) tq fl q
  have ao : ∀ k i j, ¬ (k = 12 ∧ i = L 0 ∧ j = 0) → ¬ (k = 5 ∧ i = 2 + L 0 ∧ j = 0) → ¬ (k = 6 ∧ i = 0 ∧ j = 0) → trA ad (L 0) tq fl q k i j = ad k i j := fun k i j b1 b2 b3 => trA_o ad _ _ _ _ b1 b2 b3
  rw [← hadx] at hK a12 a5 a6 ⊢
  simp only [← hadx] at ao
  have ak : ∀ k i j, k ≠ 12 → k ≠ 5 → k ≠ 6 → ad' k i j = ad k i j := fun k i j b1 b2 b3 => ao k i j (fun z => b1 z.1) (fun z => b2 z.1) (fun z => b3 z.1)
  have hz := hZ.1 (L 0) (Nat.le_refl _) h60
  refine hR.grow (fun k i j hk => (hK k i j hk).imp id And.left) ?_ (fun k i j => (k = 12 ∧ i = L 0) ∨ (k = 5 ∧ i = 2 + L 0) ∨ (k = 6 ∧ i = 0) ∨ (k = 5 ∧ i = 0)) ?_ ?_ ?_
  · intro k i j k' i' j' h1 h2 h4 h5 he
    rcases hK k i j h1 with ⟨b1, b2⟩ | ⟨-, b⟩
    · rw [b2] at h4
      exact absurd h4 (wsome _ _ _ b1)
    · rcases hK k' i' j' h2 with ⟨b1, b2⟩ | ⟨-, b'⟩
      · rw [b2] at h5
        exact absurd h5 (wsome _ _ _ b1)
      · rcases b with ⟨rfl, rfl, rfl⟩ | ⟨rfl, rfl, rfl⟩ | ⟨rfl, rfl, rfl⟩ <;> rcases b' with ⟨rfl, rfl, rfl⟩ | ⟨rfl, rfl, rfl⟩ | ⟨rfl, rfl, rfl⟩ <;> first
          | exact ⟨rfl, rfl, rfl⟩
          | (rw [a12, a5] at he; exact absurd he hq3)
          | (rw [a5, a12] at he; exact absurd he.symm hq3)
          | (rw [a12, a6] at he; exact absurd he.symm hq5)
          | (rw [a6, a12] at he; exact absurd he hq5)
          | (rw [a5, a6] at he; exact absurd he.symm hq6)
          | (rw [a6, a5] at he; exact absurd he hq6)
  · rintro k i j hk (⟨rfl, rfl⟩ | ⟨rfl, rfl⟩ | ⟨rfl, rfl⟩ | ⟨rfl, rfl⟩)
    · have hj : j = 0 := hk.2
      subst hj
      rw [a12, hu1]
      simp [cst, setA_e, a5, upN_at, ak 4 _ _ (by decide) (by decide) (by decide), hz.1, hz.2.2]
    · have hj : j = 0 := hk.2
      subst hj
      rw [a5, hu2]
      simp [cst, trL_n, upE, nI_0]
    · have hj : j = 0 := hk.2.1
      subst hj
      rw [a6, hu5]
      simp only [cst]
      rw [upN_ne _ _ (show 0 ≠ 2 + L 0 by omega), upN_at]
      refine congrArg (fun z => some (Sum.inl (G.2 4, c1, Sum.inr (Sum.inr (Sum.inr (Sum.inr z)))))) (funext fun j => ?_)
      unfold ldat
      rw [trL_0]
      by_cases b1 : j < L 0
      · rw [if_pos (by omega), hf2 j b1]
        unfold ldat
        rw [if_pos b1]
        simp only [lkd, if_true]
        rw [ao 12 j 0 (fun z => by omega) (fun z => by omega) (fun z => by omega)]
      · by_cases b2 : j = L 0
        · subst b2
          rw [if_pos (by omega), hf1]
          simp only [lkd, if_true]
          rw [a12]
        · rw [if_neg (by omega), hf3 j (by omega)]
    · have hj : j = 0 := hk.2
      subst hj
      rw [ao 5 0 0 (fun z => by omega) (fun z => by omega) (fun z => by omega), hu4]
      simp [cst, trL_0, a6, upE, show ¬ 0 = 2 + L 0 by omega]
  · intro k i j hk hx
    have b1 : ¬ (k = 12 ∧ i = L 0) := fun z => hx (Or.inl z)
    have b2 : ¬ (k = 5 ∧ i = 2 + L 0) := fun z => hx (Or.inr (Or.inl z))
    have b3 : ¬ (k = 6 ∧ i = 0) := fun z => hx (Or.inr (Or.inr (Or.inl z)))
    have b4 : ¬ (k = 5 ∧ i = 0) := fun z => hx (Or.inr (Or.inr (Or.inr z)))
    have hl := live_tree hk b1 b2 b3
    refine ⟨hl, ao k i j (fun z => b1 ⟨z.1, z.2.1⟩) (fun z => b2 ⟨z.1, z.2.1⟩) (fun z => b3 ⟨z.1, z.2.1⟩), hfr _ (fun z => wsome _ _ _ hl (by rw [z]; exact hq1)) (fun z => wsome _ _ _ hl (by rw [z]; exact hq2)) (hR.ne hl (⟨by omega, rfl⟩ : lvK L 5 0 0) (fun z => b4 ⟨z.1, z.2.1⟩)) ?_, ?_, ?_⟩
    · intro z
      rcases hq4 with hq4 | ⟨hq4, cap, h4⟩
      · exact wsome _ _ _ hl (by rw [z]; exact hq4)
      · by_cases hl0 : L 0 = 0
        · rw [if_pos hl0, hz12] at h4
          cases h4
        · rw [if_neg hl0] at hq4
          rw [hq4] at z
          exact hR.ne hl (show lvK L 6 0 0 from ⟨by omega, rfl, by omega⟩) (fun y => b3 ⟨y.1, y.2.1⟩) z
    · unfold agr
      split
      case h_6 => simp [upE, show ¬ i = 0 from fun z => b4 ⟨rfl, z⟩, show ¬ i = 2 + L 0 from fun z => b2 ⟨rfl, z⟩]
      case h_13 =>
        have : ¬ i = L 0 := fun z => b1 ⟨rfl, z⟩
        simp [setA_e, this]
      all_goals simp_all [setA_e, setA_n, cupS, hasS, gr4_set, bg4_set, bt60_set, l_sum, upE_k, va_up]
    · unfold agrR
      split
      case h_1 => exact ⟨ak _ _ _ (by decide) (by decide) (by decide), ak _ _ _ (by decide) (by decide) (by decide), ak _ _ _ (by decide) (by decide) (by decide), ao _ _ _ (fun z => by omega) (fun z => by omega) (fun z => by omega), ao _ _ _ (fun z => by omega) (fun z => by omega) (fun z => by omega), ak _ _ _ (by decide) (by decide) (by decide), ak _ _ _ (by decide) (by decide) (by decide)⟩
      case h_2 => funext j'; simp only [six, ak 4 _ _ (by decide) (by decide) (by decide)]
      case h_3 => exact fun b _ => ak _ _ _ (by decide) (by decide) (by decide)
      case h_4 => exact ⟨trL_o L (fun z => b4 ⟨rfl, z⟩) (fun z => b2 ⟨rfl, z⟩), Or.inr (ao 6 i 0 (fun z => by omega) (fun z => by omega) (fun z => b4 ⟨rfl, z.2.1⟩))⟩
      case h_5 =>
        have hi0 : i ≠ 0 := fun z => b3 ⟨rfl, z⟩
        have hin : i ≠ 2 + L 0 := fun z => by have := hl.1; omega
        refine ⟨by rw [upN_ne _ _ hin, upN_ne _ _ hi0], ?_⟩
        funext j'
        unfold ldat lkd
        rw [trL_o L hi0 hin, ak 13 _ _ (by decide) (by decide) (by decide), ak 15 _ _ (by decide) (by decide) (by decide), if_neg hi0, if_neg hi0]
      case h_6 => exact ⟨ak _ _ _ (by decide) (by decide) (by decide), ak _ _ _ (by decide) (by decide) (by decide), ak _ _ _ (by decide) (by decide) (by decide), ak _ _ _ (by decide) (by decide) (by decide), ak _ _ _ (by decide) (by decide) (by decide), ak _ _ _ (by decide) (by decide) (by decide), ak _ _ _ (by decide) (by decide) (by decide), ak _ _ _ (by decide) (by decide) (by decide)⟩
      case h_7 => funext j'; simp only [six, ak 11 _ _ (by decide) (by decide) (by decide)]
      case h_8 =>
        have : i ≠ L 0 := fun z => b1 ⟨rfl, z⟩
        exact ⟨by rw [upN_ne _ _ this, ak 4 _ _ (by decide) (by decide) (by decide)], ao 5 (2 + i) 0 (fun z => by omega) (fun z => by omega) (fun z => by omega)⟩
      case h_9 => exact ak 14 i j (by decide) (by decide) (by decide)
      case h_10 => exact ⟨ak _ _ _ (by decide) (by decide) (by decide), ak _ _ _ (by decide) (by decide) (by decide), ak _ _ _ (by decide) (by decide) (by decide)⟩
      all_goals trivial
  · intro i hi
    rw [trL_0] at hi
    by_cases h : i = 2 + L 0
    · subst h
      rw [upN_at, trL_n]
      omega
    · rw [upN_ne _ _ h]
      by_cases h0 : i = 0
      · subst h0
        rw [upN_at, trL_0]
        omega
      · rw [upN_ne _ _ h0, trL_o L h0 h]
        exact hR.2.2 i (by omega)
theorem bear_0 (g : Int32) : nI 0 ≤ bearI g := by
  have hb : bearI g = 0 ∨ bearI g = 1 ∨ bearI g = 2 ∨ bearI g = 3 := by
    unfold bearI
    split <;> (try split) <;> (try split) <;> simp
  rcases hb with e | e | e | e <;> rw [e] <;> decide
theorem inv_tree {now : Nat} {L wd bw : Nat → Nat} {lb : Nat → Option Nat} {I : Nat → Int32} {F : Nat → Nat → Int32} (h : Inv now L wd bw lb I F) (h60 : L 0 < 60) {wn x y : Nat} (hw : wn < 6) (hx : x ≤ 99) (hy : y ≤ 99) {g : Int32} (hg : inI g 20 400) : Inv now (trL L) (va_up wd (L 0) wn) bw lb (va_up I 3 (nI (L 0 + 1))) (setA (setA (setA (setA F 4 (L 0) (nI wn)) 5 (L 0) (nI x)) 6 (L 0) (nI y)) 7 (L 0) g) := by
  obtain ⟨hA, hT, hZ, hF, hB⟩ := h
  obtain ⟨F', hF'⟩ : ∃ z, z = setA (setA (setA (setA F 4 (L 0) (nI wn)) 5 (L 0) (nI x)) 6 (L 0) (nI y)) 7 (L 0) g := ⟨_, rfl⟩
  rw [← hF']
  have n : ∀ k, k ≠ 4 → k ≠ 5 → k ≠ 6 → k ≠ 7 → F' k = F k := fun k a b c d => by rw [hF', setA_n _ _ _ d, setA_n _ _ _ c, setA_n _ _ _ b, setA_n _ _ _ a]
  have e : ∀ k q, q ≠ L 0 → F' k q = F k q := fun k q hq => by rw [hF']; simp [setA_e, hq]
  have eI : ∀ k, k ≠ 3 → va_up I 3 (nI (L 0 + 1)) k = I k := fun k hk => up_n _ _ hk
  have hz := hZ.1 (L 0) (Nat.le_refl _) h60
  have l1 : trL L 1 = L 1 := trL_o L (by decide) (by omega)
  refine ⟨?_, ?_, ?_, ?_, IvB_c l1 (eI 16 (by decide)) (n 17 (by decide) (by decide) (by decide) (by decide)) (n 18 (by decide) (by decide) (by decide) (by decide)) (n 19 (by decide) (by decide) (by decide) (by decide)) (n 20 (by decide) (by decide) (by decide) (by decide)) (n 21 (by decide) (by decide) (by decide) (by decide)) (n 22 (by decide) (by decide) (by decide) (by decide)) (n 23 (by decide) (by decide) (by decide) (by decide)) (n 24 (by decide) (by decide) (by decide) (by decide)) hB⟩
  · obtain ⟨a1, a2, a3, a4, a5⟩ := hA
    refine ⟨by rw [eI 0 (by decide)]; exact a1, a2, by rw [up_k, trL_0], by rw [trL_0]; omega, by rw [n 1 (by decide) (by decide) (by decide) (by decide), n 2 (by decide) (by decide) (by decide) (by decide)]; exact a5⟩
  · intro t ht
    rw [trL_0] at ht
    by_cases q : t = L 0
    · subst q
      rw [upN_at, trL_n, n 8 (by decide) (by decide) (by decide) (by decide), n 9 (by decide) (by decide) (by decide) (by decide)]
      refine ⟨by rw [hF']; simp [setA_e], hw, ⟨x, y, by rw [hF']; simp [setA_e], hx, by rw [hF']; simp [setA_e], hy⟩, by rw [hF']; simp [setA_e]; exact hg, Or.inl hz.1, by rw [hz.2.1]; rfl, bear_0 _, by decide⟩
    · rw [upN_ne _ _ q, trL_o L (by omega) (by omega), e 4 t q, e 5 t q, e 6 t q, e 7 t q, e 8 t q, e 9 t q]
      exact hT t (by omega)
  · refine ⟨fun t a b => ?_, fun t i a b c => ?_⟩
    · rw [trL_0] at a
      rw [e 8 t (by omega), e 9 t (by omega), e 10 t (by omega)]
      exact hZ.1 t (by omega) b
    · rw [n 11 (by decide) (by decide) (by decide) (by decide), n 15 (by decide) (by decide) (by decide) (by decide), n 14 (by decide) (by decide) (by decide) (by decide)]
      refine hZ.2 t i a b ?_
      rw [trL_0] at c
      by_cases q : L 0 ≤ t
      · exact Or.inl q
      · rcases c with c | c
        · omega
        · rw [trL_o L (by omega) (by omega)] at c
          exact Or.inr c
  · obtain ⟨g1, g2, g3⟩ := hF
    rw [IvF, n 14 (by decide) (by decide) (by decide) (by decide), n 12 (by decide) (by decide) (by decide) (by decide), n 13 (by decide) (by decide) (by decide) (by decide), n 11 (by decide) (by decide) (by decide) (by decide), n 8 (by decide) (by decide) (by decide) (by decide), trL_0]
    refine ⟨g1, fun t ht i hi => ?_, fun t ht h8 => ?_⟩
    · by_cases q : t = L 0
      · rw [q, trL_n] at hi
        omega
      · rw [trL_o L (by omega) (by omega)] at hi
        exact g2 t (by omega) i hi
    · by_cases q : t = L 0
      · rw [q] at h8
        exact absurd hz.1 h8
      · exact g3 t (by omega) h8
theorem plc_eq (v : Int32) : plcI v = binI v 0 9999 := by
  unfold plcI binI
  have e : (10000 ≤ v) = (9999 < v) := propext (by
    rw [Int32.le_iff_toInt_le, Int32.lt_iff_toInt_lt]
    have e1 : (10000 : Int32).toInt = 10000 := rfl
    have e2 : (9999 : Int32).toInt = 9999 := rfl
    omega)
  simp only [e]
