/-! a face is opened, or cut again -/
theorem rep_cut {G : XG} {w u : XW} {ad : YA} {E : YE} {cp L wd bw : Nat → Nat} {lb : Nat → Option Nat} {I : Nat → Int32} {F : Nat → Nat → Int32} (hR : Rep G w ad E cp L wd bw lb I F) (h60 : L 0 ≤ 60) (h3 : ∀ t, t < L 0 → L (2 + t) ≤ 3) {t i : Nat} (ht : t < L 0) (hi : i < L (2 + t)) {x y : Int32}
    (hu1 : u (ad 12 t 0) = some (.inr (5, [.int (nI t), .ref (ad 4 (wd t) 0), .int (F 5 t * 100 + F 6 t), .int (bearI (F 7 t)), .ref (ad 5 (2 + t) 0), .int (F 8 t), .int y])))
    (hu2 : u (ad 13 t i) = some (.inr (2, [.int (F 11 (3 * t + i) + 1), .int x, .int (F 13 (3 * t + i)), .int (cupS F (3 * t + i)), .int (F 15 (3 * t + i)), .ref (ad 14 t i)])))
    (hfr : ∀ z, z ≠ ad 12 t 0 → z ≠ ad 13 t i → u z = w z) : Rep G u ad E cp L wd bw lb I (setA (setA (setA F 11 (3 * t + i) (F 11 (3 * t + i) + 1)) 12 (3 * t + i) x) 10 t y) := by
  refine hR.step (fun k i' j => (k = 12 ∧ i' = t) ∨ (k = 13 ∧ i' = t ∧ j = i)) ?_ ?_
  · rintro k i' j hk (⟨rfl, rfl⟩ | ⟨rfl, rfl, rfl⟩)
    · have hj : j = 0 := hk.2
      subst hj
      rw [hu1]
      simp [cst, setA_e]
    · rw [hu2]
      simp [cst, setA_e, cupS, show ¬ i' = 60 by omega]
  · intro k i' j hk hx
    refine ⟨hfr _ (hR.ne hk (⟨ht, rfl⟩ : lvK L 12 t 0) (fun z => hx (Or.inl ⟨z.1, z.2.1⟩))) (hR.ne hk (Or.inl ⟨ht, hi⟩ : lvK L 13 t i) (fun z => hx (Or.inr ⟨z.1, z.2.1, z.2.2⟩))), ?_⟩
    unfold agr
    split
    case h_14 =>
      by_cases q : i' = 60
      · rw [if_pos q]
      · rw [if_neg q]
        have hk : (i' < L 0 ∧ j < L (2 + i')) ∨ (i' = 60 ∧ j = 0) := hk
        have hlt : i' < L 0 ∧ j < L (2 + i') := hk.resolve_right (fun z => q z.1)
        have := h3 i' hlt.1
        have := h3 t ht
        have hne : ¬ 3 * i' + j = 3 * t + i := fun z => hx (Or.inr ⟨rfl, by omega, by omega⟩)
        simp [setA_e, hne, cupS]
    all_goals simp_all [setA_e, setA_n, cupS, hasS, gr4_set, bg4_set, bt60_set, l_sum]
def upE (E : YE) (k i j q : Nat) (v : Int32) : YE := fun k' i' j' q' => if k' = k ∧ i' = i ∧ j' = j ∧ q' = q then v else E k' i' j' q'
theorem upE_k (E : YE) {k : Nat} (i j q : Nat) (v : Int32) {k' : Nat} (h : k' ≠ k) : upE E k i j q v k' = E k' := by
  funext i' j' q'
  exact if_neg (fun z => h z.1)
theorem upN_at (f : Nat → Nat) (k v : Nat) : va_up f k v k = v := if_pos rfl
theorem upN_ne (f : Nat → Nat) {k j : Nat} (v : Nat) (h : j ≠ k) : va_up f k v j = f j := if_neg h
/-- which cells there are behind the opening of a face -/
theorem live_open {L : Nat → Nat} {t k i j : Nat} (h60 : L 0 ≤ 60) (ht : t < L 0) (hk : lvK (va_up L (2 + t) (L (2 + t) + 1)) k i j) (h1 : ¬ (k = 13 ∧ i = t ∧ j = L (2 + t))) (h2 : ¬ (k = 14 ∧ i = t ∧ j = L (2 + t))) (h3 : ¬ (k = 6 ∧ i = 2 + t)) : lvK L k i j := by
  have e0 : va_up L (2 + t) (L (2 + t) + 1) 0 = L 0 := upN_ne _ _ (by omega)
  have e1 : va_up L (2 + t) (L (2 + t) + 1) 1 = L 1 := upN_ne _ _ (by omega)
  have eo : ∀ q, q ≠ 2 + t → va_up L (2 + t) (L (2 + t) + 1) q = L q := fun q h => upN_ne _ _ h
  unfold lvK at hk ⊢
  split at hk
  case h_7 =>
    obtain ⟨a, b, c⟩ := hk
    rw [e0] at a
    rw [eo _ (fun z => h3 ⟨rfl, z⟩)] at c
    exact ⟨a, b, c⟩
  case h_14 =>
    rcases hk with ⟨a, b⟩ | hk
    · rw [e0] at a
      refine Or.inl ⟨a, ?_⟩
      by_cases q : i = t
      · subst q
        rw [upN_at] at b
        have : j ≠ L (2 + i) := fun z => h1 ⟨rfl, rfl, z⟩
        omega
      · rw [eo _ (by omega)] at b
        exact b
    · exact Or.inr hk
  case h_15 =>
    rcases hk with ⟨a, b⟩ | hk
    · rw [e0] at a
      refine Or.inl ⟨a, ?_⟩
      by_cases q : i = t
      · subst q
        rw [upN_at] at b
        have : j ≠ L (2 + i) := fun z => h2 ⟨rfl, rfl, z⟩
        omega
      · rw [eo _ (by omega)] at b
        exact b
    · exact Or.inr hk
  all_goals (try rw [e0] at hk); (try rw [e1] at hk); exact hk
theorem rep_open {G : XG} {w u : XW} {ad : YA} {E : YE} {cp L wd bw : Nat → Nat} {lb : Nat → Option Nat} {I : Nat → Int32} {F : Nat → Nat → Int32} (hR : Rep G w ad E cp L wd bw lb I F) (h60 : L 0 ≤ 60) (h3 : ∀ t, t < L 0 → L (2 + t) ≤ 3) (hZ : IvZ L F) (hz12 : w (G.2 12) = none) {t : Nat} (ht : t < L 0) (hn3 : L (2 + t) < 3) {fq gq q c1 : Nat} {fn : Nat → Option Nat} {x y z9 : Int32}
    (hq1 : w fq = none) (hq2 : w gq = none) (hq3 : fq ≠ gq) (hq4 : w q = none ∨ (q = (if L (2 + t) = 0 then G.2 12 else ad 6 (2 + t) 0) ∧ ∃ cap, w (if L (2 + t) = 0 then G.2 12 else ad 6 (2 + t) 0) = some (.inl (G.2 4, cap, .inr (.inr (.inr (.inr (ldat ad L (2 + t))))))))) (hq5 : q ≠ fq) (hq6 : q ≠ gq)
    (hf1 : fn (L (2 + t)) = some fq) (hf2 : ∀ j, j < L (2 + t) → fn j = ldat ad L (2 + t) j) (hf3 : ∀ j, L (2 + t) < j → fn j = none) (hc1 : L (2 + t) + 1 ≤ c1) (hc2 : c1 ≤ 300)
    (hu1 : u (ad 12 t 0) = some (.inr (5, [.int (nI t), .ref (ad 4 (wd t) 0), .int (F 5 t * 100 + F 6 t), .int (bearI (F 7 t)), .ref (ad 5 (2 + t) 0), .int (F 8 t), .int y])))
    (hu2 : u fq = some (.inr (2, [.int (0 + 1), .int x, .int z9, .int 0, .int 0, .ref gq]))) (hu3 : u gq = some (.inl (G.2 0, 4, .inl (fun _ => 0))))
    (hu4 : u (ad 5 (2 + t) 0) = some (.inr (0, [.int (E 5 (2 + t) 0 0 + 1), .ref q, .int (nI (L (2 + t) + 1))]))) (hu5 : u q = some (.inl (G.2 4, c1, .inr (.inr (.inr (.inr fn))))))
    (hfr : ∀ z, z ≠ ad 12 t 0 → z ≠ fq → z ≠ gq → z ≠ ad 5 (2 + t) 0 → z ≠ q → u z = w z) :
    Rep G u (upA (upA (upA ad 13 t (L (2 + t)) fq) 14 t (L (2 + t)) gq) 6 (2 + t) 0 q) (upE E 5 (2 + t) 0 0 (E 5 (2 + t) 0 0 + 1)) (va_up cp (2 + t) c1) (va_up L (2 + t) (L (2 + t) + 1)) wd bw lb I
      (setA (setA (setA (setA (setA F 9 t (F 9 t + 1)) 13 (3 * t + L (2 + t)) z9) 11 (3 * t + L (2 + t)) (F 11 (3 * t + L (2 + t)) + 1)) 12 (3 * t + L (2 + t)) x) 10 t y) := by
  obtain ⟨n, hn⟩ : ∃ z, z = L (2 + t) := ⟨_, rfl⟩
  obtain ⟨ad', hadx⟩ : ∃ z, z = upA (upA (upA ad 13 t (L (2 + t)) fq) 14 t (L (2 + t)) gq) 6 (2 + t) 0 q := ⟨_, rfl⟩
  rw [← hadx]
  have a13 : ad' 13 t (L (2 + t)) = fq := by rw [hadx, upA_k _ _ _ _ _ _ (by decide), upA_k _ _ _ _ _ _ (by decide), upA_at]
  have a14 : ad' 14 t (L (2 + t)) = gq := by rw [hadx, upA_k _ _ _ _ _ _ (by decide), upA_at]
  have a6 : ad' 6 (2 + t) 0 = q := by rw [hadx, upA_at]
  have ao : ∀ k i j, ¬ (k = 13 ∧ i = t ∧ j = L (2 + t)) → ¬ (k = 14 ∧ i = t ∧ j = L (2 + t)) → ¬ (k = 6 ∧ i = 2 + t ∧ j = 0) → ad' k i j = ad k i j := fun k i j b1 b2 b3 => by
    rw [hadx]
    unfold upA
    rw [if_neg b3, if_neg b2, if_neg b1]
  have ak : ∀ k i j, k ≠ 13 → k ≠ 14 → k ≠ 6 → ad' k i j = ad k i j := fun k i j b1 b2 b3 => ao k i j (fun z => b1 z.1) (fun z => b2 z.1) (fun z => b3 z.1)
  have e0 : va_up L (2 + t) (L (2 + t) + 1) 0 = L 0 := upN_ne _ _ (by omega)
  have e1 : va_up L (2 + t) (L (2 + t) + 1) 1 = L 1 := upN_ne _ _ (by omega)
  have eo : ∀ q, q ≠ 2 + t → va_up L (2 + t) (L (2 + t) + 1) q = L q := fun q h => upN_ne _ _ h
  have hz := hZ.2 t (L (2 + t)) (by omega) hn3 (Or.inr (Nat.le_refl _))
  have wsome : ∀ k i j, lvK L k i j → w (ad k i j) ≠ none := fun k i j hk z => by rw [hR.1 k i j hk] at z; cases z
  have hK : ∀ k i j, lvK (va_up L (2 + t) (L (2 + t) + 1)) k i j → (lvK L k i j ∧ ad' k i j = ad k i j) ∨ (w (ad' k i j) = none ∧ ((k = 13 ∧ i = t ∧ j = L (2 + t)) ∨ (k = 14 ∧ i = t ∧ j = L (2 + t)) ∨ (k = 6 ∧ i = 2 + t ∧ j = 0))) := fun k i j hk => by
    by_cases b1 : k = 13 ∧ i = t ∧ j = L (2 + t)
    · obtain ⟨rfl, rfl, rfl⟩ := b1
      exact Or.inr ⟨by rw [a13]; exact hq1, Or.inl ⟨rfl, rfl, rfl⟩⟩
    · by_cases b2 : k = 14 ∧ i = t ∧ j = L (2 + t)
      · obtain ⟨rfl, rfl, rfl⟩ := b2
        exact Or.inr ⟨by rw [a14]; exact hq2, Or.inr (Or.inl ⟨rfl, rfl, rfl⟩)⟩
      · by_cases b3 : k = 6 ∧ i = 2 + t
        · obtain ⟨rfl, rfl⟩ := b3
          have hj : j = 0 := hk.2.1
          subst hj
          rcases hq4 with hq4 | ⟨hq4, cap, h4⟩
          · exact Or.inr ⟨by rw [a6]; exact hq4, Or.inr (Or.inr ⟨rfl, rfl, rfl⟩)⟩
          · by_cases hl : L (2 + t) = 0
            · rw [if_pos hl, hz12] at h4
              cases h4
            · rw [if_neg hl] at hq4
              exact Or.inl ⟨⟨by omega, rfl, by omega⟩, by rw [a6, hq4]⟩
        · exact Or.inl ⟨live_open h60 ht hk b1 b2 b3, ao k i j b1 b2 (fun z => b3 ⟨z.1, z.2.1⟩)⟩
  refine hR.grow (fun k i j hk => (hK k i j hk).imp id And.left) ?_ (fun k i j => (k = 13 ∧ i = t ∧ j = L (2 + t)) ∨ (k = 14 ∧ i = t ∧ j = L (2 + t)) ∨ (k = 6 ∧ i = 2 + t) ∨ (k = 5 ∧ i = 2 + t) ∨ (k = 12 ∧ i = t)) ?_ ?_ ?_
  · intro k i j k' i' j' h1 h2 h4 h5 he
    rcases hK k i j h1 with ⟨b1, b2⟩ | ⟨-, b⟩
    · rw [b2] at h4
      exact absurd h4 (wsome _ _ _ b1)
    · rcases hK k' i' j' h2 with ⟨b1, b2⟩ | ⟨-, b'⟩
      · rw [b2] at h5
        exact absurd h5 (wsome _ _ _ b1)
      · rcases b with ⟨rfl, rfl, rfl⟩ | ⟨rfl, rfl, rfl⟩ | ⟨rfl, rfl, rfl⟩ <;> rcases b' with ⟨rfl, rfl, rfl⟩ | ⟨rfl, rfl, rfl⟩ | ⟨rfl, rfl, rfl⟩ <;> first
          | exact ⟨rfl, rfl, rfl⟩
          | (rw [a13, a14] at he; exact absurd he hq3)
          | (rw [a14, a13] at he; exact absurd he.symm hq3)
          | (rw [a13, a6] at he; exact absurd he.symm hq5)
          | (rw [a6, a13] at he; exact absurd he hq5)
          | (rw [a14, a6] at he; exact absurd he.symm hq6)
          | (rw [a6, a14] at he; exact absurd he hq6)
  · rintro k i j hk (⟨rfl, rfl, rfl⟩ | ⟨rfl, rfl, rfl⟩ | ⟨rfl, rfl⟩ | ⟨rfl, rfl⟩ | ⟨rfl, rfl⟩)
    · rw [a13, hu2]
      have hcup := cupS_0 (F := F) hz.2.2
      simp [cst, setA_e, show ¬ i = 60 by omega, a14, hz.1, hz.2.1]
      rw [← hcup]
      simp [cupS, setA_e]
    · rw [a14, hu3]
      simp only [cst, show ¬ i = 60 by omega, if_false]
      refine congrArg (fun z => some (Sum.inl (G.2 0, 4, Sum.inl z))) (funext fun g => ?_)
      by_cases hg : g < 4
      · rw [gr4_at _ _ hg]
        simp [setA_e]
        exact (hz.2.2 g hg).symm
      · simp [gr4, hg]
    · have hj : j = 0 := hk.2.1
      subst hj
      rw [a6, hu5]
      simp only [cst, upN_at]
      refine congrArg (fun z => some (Sum.inl (G.2 4, c1, Sum.inr (Sum.inr (Sum.inr (Sum.inr z)))))) (funext fun j => ?_)
      unfold ldat
      rw [upN_at]
      by_cases b1 : j < L (2 + t)
      · rw [if_pos (by omega), hf2 j b1]
        unfold ldat
        rw [if_pos b1]
        simp only [lkd, show ¬ 2 + t = 0 by omega, show ¬ 2 + t = 1 by omega, if_false, show 2 + t - 2 = t by omega]
        rw [ao 13 t j (fun z => by omega) (fun z => by omega) (fun z => by omega)]
      · by_cases b2 : j = L (2 + t)
        · subst b2
          rw [if_pos (by omega), hf1]
          simp only [lkd, show ¬ 2 + t = 0 by omega, show ¬ 2 + t = 1 by omega, if_false, show 2 + t - 2 = t by omega]
          rw [a13]
        · rw [if_neg (by omega), hf3 j (by omega)]
    · have hj : j = 0 := hk.2
      subst hj
      rw [ak 5 _ _ (by decide) (by decide) (by decide), hu4]
      simp [cst, upN_at, a6, upE]
    · have hj : j = 0 := hk.2
      subst hj
      rw [ak 12 _ _ (by decide) (by decide) (by decide), hu1]
      simp [cst, setA_e, ak 4 _ _ (by decide) (by decide) (by decide), ak 5 _ _ (by decide) (by decide) (by decide)]
  · intro k i j hk hx
    have b1 : ¬ (k = 13 ∧ i = t ∧ j = L (2 + t)) := fun z => hx (Or.inl z)
    have b2 : ¬ (k = 14 ∧ i = t ∧ j = L (2 + t)) := fun z => hx (Or.inr (Or.inl z))
    have b3 : ¬ (k = 6 ∧ i = 2 + t) := fun z => hx (Or.inr (Or.inr (Or.inl z)))
    have b4 : ¬ (k = 5 ∧ i = 2 + t) := fun z => hx (Or.inr (Or.inr (Or.inr (Or.inl z))))
    have b5 : ¬ (k = 12 ∧ i = t) := fun z => hx (Or.inr (Or.inr (Or.inr (Or.inr z))))
    have hl := live_open h60 ht hk b1 b2 b3
    refine ⟨hl, ao k i j b1 b2 (fun z => b3 ⟨z.1, z.2.1⟩), hfr _ (hR.ne hl (⟨ht, rfl⟩ : lvK L 12 t 0) (fun z => b5 ⟨z.1, z.2.1⟩)) (fun z => wsome _ _ _ hl (by rw [z]; exact hq1)) (fun z => wsome _ _ _ hl (by rw [z]; exact hq2)) (hR.ne hl (⟨by omega, rfl⟩ : lvK L 5 (2 + t) 0) (fun z => b4 ⟨z.1, z.2.1⟩)) ?_, ?_, ?_⟩
    · intro z
      rcases hq4 with hq4 | ⟨hq4, cap, h4⟩
      · exact wsome _ _ _ hl (by rw [z]; exact hq4)
      · by_cases hl0 : L (2 + t) = 0
        · rw [if_pos hl0, hz12] at h4
          cases h4
        · rw [if_neg hl0] at hq4
          rw [hq4] at z
          exact hR.ne hl (show lvK L 6 (2 + t) 0 from ⟨by omega, rfl, by omega⟩) (fun y => b3 ⟨y.1, y.2.1⟩) z
    · unfold agr
      split
      case h_14 =>
        by_cases p : i = 60
        · rw [if_pos p, upE_k _ _ _ _ _ (by decide)]
        · rw [if_neg p]
          have hlt : i < L 0 ∧ j < L (2 + i) := Or.resolve_right (show (i < L 0 ∧ j < L (2 + i)) ∨ (i = 60 ∧ j = 0) from hl) (fun z => p z.1)
          have := h3 i hlt.1
          have hne : ¬ 3 * i + j = 3 * t + L (2 + t) := fun z => b1 ⟨rfl, by omega, by omega⟩
          simp [setA_e, hne, cupS]
      case h_6 => exact if_neg (fun z => b4 ⟨rfl, z.2.1⟩)
      all_goals simp_all [setA_e, setA_n, cupS, hasS, gr4_set, bg4_set, bt60_set, l_sum, upE_k]
    · unfold agrR
      split
      case h_1 => exact ⟨ak _ _ _ (by decide) (by decide) (by decide), ak _ _ _ (by decide) (by decide) (by decide), ak _ _ _ (by decide) (by decide) (by decide), ak _ _ _ (by decide) (by decide) (by decide), ak _ _ _ (by decide) (by decide) (by decide), ak _ _ _ (by decide) (by decide) (by decide), ak _ _ _ (by decide) (by decide) (by decide)⟩
      case h_2 => funext j'; simp only [six, ak 4 _ _ (by decide) (by decide) (by decide)]
      case h_3 => exact fun b _ => ak _ _ _ (by decide) (by decide) (by decide)
      case h_4 => exact ⟨eo _ (fun z => b4 ⟨rfl, z⟩), Or.inr (ao 6 i 0 (fun z => by omega) (fun z => by omega) (fun z => b4 ⟨rfl, z.2.1⟩))⟩
      case h_5 =>
        refine ⟨upN_ne _ _ (fun z => b3 ⟨rfl, z⟩), ?_⟩
        funext j'
        unfold ldat lkd
        rw [eo _ (fun z => b3 ⟨rfl, z⟩), ak 12 _ _ (by decide) (by decide) (by decide), ak 15 _ _ (by decide) (by decide) (by decide)]
        by_cases c0 : i = 0
        · rw [if_pos c0, if_pos c0]
        · by_cases c1 : i = 1
          · rw [if_neg c0, if_neg c0, if_pos c1, if_pos c1]
          · rw [if_neg c0, if_neg c0, if_neg c1, if_neg c1, ao 13 (i - 2) j' (fun z => b3 ⟨rfl, by omega⟩) (fun z => by omega) (fun z => by omega)]
      case h_6 => exact ⟨ak _ _ _ (by decide) (by decide) (by decide), ak _ _ _ (by decide) (by decide) (by decide), ak _ _ _ (by decide) (by decide) (by decide), ak _ _ _ (by decide) (by decide) (by decide), ak _ _ _ (by decide) (by decide) (by decide), ak _ _ _ (by decide) (by decide) (by decide), ao _ _ _ (fun z => by omega) (fun z => by omega) (fun z => by omega), ak _ _ _ (by decide) (by decide) (by decide)⟩
      case h_7 => funext j'; simp only [six, ak 11 _ _ (by decide) (by decide) (by decide)]
      case h_8 => exact ⟨ak _ _ _ (by decide) (by decide) (by decide), ak _ _ _ (by decide) (by decide) (by decide)⟩
      case h_9 => exact ao 14 i j (fun z => by omega) (fun z => b1 ⟨rfl, z.2⟩) (fun z => by omega)
      case h_10 => exact ⟨ak _ _ _ (by decide) (by decide) (by decide), ak _ _ _ (by decide) (by decide) (by decide), ak _ _ _ (by decide) (by decide) (by decide)⟩
      all_goals trivial
  · intro i hi
    rw [e0] at hi
    by_cases h : i = 2 + t
    · subst h
      rw [upN_at, upN_at]
      omega
    · rw [upN_ne _ _ h, upN_ne _ _ h]
      exact hR.2.2 i hi
