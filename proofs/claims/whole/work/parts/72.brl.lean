/-! a barrel is filled, a barrel comes -/
theorem bg4_add (F : Nat → Nat → Int32) {b g : Nat} (c : Int32) (hg : g < 4) : bg4 (setA F 18 (4 * b + g) (F 18 (4 * b + g) + c)) b = upd (bg4 F b) g (bg4 F b g + c) := by
  funext q
  unfold upd
  rw [bg4_at _ _ hg]
  by_cases e : q = g
  · subst e
    rw [if_pos rfl, bg4_at _ _ hg]
    simp [setA_e]
  · rw [if_neg e]
    unfold bg4
    by_cases hq : q < 4
    · rw [if_pos hq, if_pos hq, setA_e, if_neg (by omega)]
    · rw [if_neg hq, if_neg hq]
theorem bt60_add (F : Nat → Nat → Int32) {b t : Nat} (c : Int32) (ht : t < 60) : bt60 (setA F 19 (60 * b + t) (F 19 (60 * b + t) + c)) b = upd (bt60 F b) t (bt60 F b t + c) := by
  funext q
  unfold upd
  rw [bt60_at _ _ ht]
  by_cases e : q = t
  · subst e
    rw [if_pos rfl, bt60_at _ _ ht]
    simp [setA_e]
  · rw [if_neg e]
    unfold bt60
    by_cases hq : q < 60
    · rw [if_pos hq, if_pos hq, setA_e, if_neg (by omega)]
    · rw [if_neg hq, if_neg hq]
theorem bg4_oth (F : Nat → Nat → Int32) {b q g : Nat} (c : Int32) (hg : g < 4) (h : q ≠ b) : bg4 (setA F 18 (4 * b + g) c) q = bg4 F q := by
  funext i
  unfold bg4
  by_cases hi : i < 4
  · rw [if_pos hi, if_pos hi, setA_e, if_neg (by omega)]
  · rw [if_neg hi, if_neg hi]
theorem bt60_oth (F : Nat → Nat → Int32) {b q t : Nat} (c : Int32) (ht : t < 60) (h : q ≠ b) : bt60 (setA F 19 (60 * b + t) c) q = bt60 F q := by
  funext i
  unfold bt60
  by_cases hi : i < 60
  · rw [if_pos hi, if_pos hi, setA_e, if_neg (by omega)]
  · rw [if_neg hi, if_neg hi]
theorem rep_fill {G : XG} {w u : XW} {ad : YA} {E : YE} {cp L wd bw : Nat → Nat} {lb : Nat → Option Nat} {I : Nat → Int32} {F : Nat → Nat → Int32} (hR : Rep G w ad E cp L wd bw lb I F) {b g t : Nat} (hb : b < L 1) (hg : g < 4) (ht : t < 60) {c : Int32}
    (hu1 : u (ad 15 b 0) = some (.inr (1, [.ref (ad 4 (bw b) 0), .int (hasS F b + c), .ref (ad 16 b 0), .ref (ad 17 b 0), .int (F 20 b), .int (F 21 b)])))
    (hu2 : u (ad 16 b 0) = some (.inl (G.2 0, 4, .inl (upd (bg4 F b) g (bg4 F b g + c))))) (hu3 : u (ad 17 b 0) = some (.inl (G.2 0, 60, .inl (upd (bt60 F b) t (bt60 F b t + c)))))
    (hfr : ∀ y, y ≠ ad 15 b 0 → y ≠ ad 16 b 0 → y ≠ ad 17 b 0 → u y = w y) :
    Rep G u ad E cp L wd bw lb I (setA (setA F 18 (4 * b + g) (F 18 (4 * b + g) + c)) 19 (60 * b + t) (F 19 (60 * b + t) + c)) := by
  have e19 : ∀ F9 : Nat → Nat → Int32, ∀ x : Int32, ∀ q, hasS (setA F9 19 (60 * b + t) x) q = hasS F9 q := fun F9 x q => hasS_set _ _ _ _ (by decide)
  have b19 : ∀ F9 : Nat → Nat → Int32, ∀ x : Int32, ∀ q, bg4 (setA F9 19 (60 * b + t) x) q = bg4 F9 q := fun F9 x q => bg4_set _ _ _ _ (by decide)
  have hc : setA (setA F 18 (4 * b + g) (F 18 (4 * b + g) + c)) 19 (60 * b + t) (F 19 (60 * b + t) + c) = setA (setA F 19 (60 * b + t) (F 19 (60 * b + t) + c)) 18 (4 * b + g) (F 18 (4 * b + g) + c) := by
    funext k j
    simp only [setA_e]
    by_cases h1 : k = 18 <;> by_cases h2 : k = 19 <;> simp_all
  refine hR.step (fun k i j => (k = 15 ∨ k = 16 ∨ k = 17) ∧ i = b) ?_ ?_
  · rintro k i j hk ⟨rfl | rfl | rfl, rfl⟩
    · have hj : j = 0 := hk.2
      subst hj
      rw [hu1]
      simp only [cst]
      rw [e19, hasS_add _ _ _ _ hg]
      simp [setA_e]
    · have hj : j = 0 := hk.2
      subst hj
      rw [hu2]
      simp only [cst]
      rw [b19, bg4_add _ _ hg]
    · have hj : j = 0 := hk.2
      subst hj
      rw [hu3]
      simp only [cst]
      rw [hc, bt60_set _ _ _ _ (by decide), bt60_add _ _ ht]
  · intro k i j hk hx
    have hx' : (k = 15 ∨ k = 16 ∨ k = 17) → i ≠ b := fun z1 z2 => hx ⟨z1, z2⟩
    refine ⟨hfr _ (hR.ne hk (⟨hb, rfl⟩ : lvK L 15 b 0) (fun z => hx' (Or.inl z.1) z.2.1)) (hR.ne hk (⟨hb, rfl⟩ : lvK L 16 b 0) (fun z => hx' (Or.inr (Or.inl z.1)) z.2.1)) (hR.ne hk (⟨hb, rfl⟩ : lvK L 17 b 0) (fun z => hx' (Or.inr (Or.inr z.1)) z.2.1)), ?_⟩
    unfold agr
    split
    case h_16 => exact ⟨by rw [e19, hasS_oth _ _ hg (hx' (Or.inl rfl))], by simp [setA_e], by simp [setA_e]⟩
    case h_17 => rw [b19, bg4_oth _ _ hg (hx' (Or.inr (Or.inl rfl)))]
    case h_18 =>
      have h17 : k = 17 := by
        unfold lvK at hk
        split at hk <;> simp_all
      rw [hc, bt60_set _ _ _ _ (by decide), bt60_oth _ _ ht (hx' (Or.inr (Or.inr h17)))]
    all_goals simp_all [setA_e, setA_n, cupS, gr4_set, l_sum]
def brA (ad : YA) (n bq gq tq q : Nat) : YA := upA (upA (upA (upA ad 15 n 0 bq) 16 n 0 gq) 17 n 0 tq) 6 1 0 q
theorem brA_15 (ad : YA) (n bq gq tq q : Nat) : brA ad n bq gq tq q 15 n 0 = bq := by
  unfold brA
  rw [upA_k _ _ _ _ _ _ (by decide), upA_k _ _ _ _ _ _ (by decide), upA_k _ _ _ _ _ _ (by decide), upA_at]
theorem brA_16 (ad : YA) (n bq gq tq q : Nat) : brA ad n bq gq tq q 16 n 0 = gq := by
  unfold brA
  rw [upA_k _ _ _ _ _ _ (by decide), upA_k _ _ _ _ _ _ (by decide), upA_at]
theorem brA_17 (ad : YA) (n bq gq tq q : Nat) : brA ad n bq gq tq q 17 n 0 = tq := by
  unfold brA
  rw [upA_k _ _ _ _ _ _ (by decide), upA_at]
theorem brA_6 (ad : YA) (n bq gq tq q : Nat) : brA ad n bq gq tq q 6 1 0 = q := upA_at _ _ _ _ _
theorem brA_o (ad : YA) (n bq gq tq q : Nat) {k i j : Nat} (h1 : ¬ ((k = 15 ∨ k = 16 ∨ k = 17) ∧ i = n)) (h3 : ¬ (k = 6 ∧ i = 1)) : brA ad n bq gq tq q k i j = ad k i j := by
  unfold brA upA
  rw [if_neg (fun z => h3 ⟨z.1, z.2.1⟩), if_neg (fun z => h1 ⟨Or.inr (Or.inr z.1), z.2.1⟩), if_neg (fun z => h1 ⟨Or.inr (Or.inl z.1), z.2.1⟩), if_neg (fun z => h1 ⟨Or.inl z.1, z.2.1⟩)]
theorem live_brl {L : Nat → Nat} {k i j : Nat} (hk : lvK (va_up L 1 (L 1 + 1)) k i j) (h1 : ¬ ((k = 15 ∨ k = 16 ∨ k = 17) ∧ i = L 1)) (h3 : ¬ (k = 6 ∧ i = 1)) : lvK L k i j := by
  have e1 : va_up L 1 (L 1 + 1) 1 = L 1 + 1 := upN_at _ _ _
  have eo : ∀ q, q ≠ 1 → va_up L 1 (L 1 + 1) q = L q := fun q h => upN_ne _ _ h
  unfold lvK at hk ⊢
  split at hk
  case h_7 =>
    obtain ⟨a, b, c⟩ := hk
    rw [eo 0 (by decide)] at a
    rw [eo _ (fun z => h3 ⟨rfl, z⟩)] at c
    exact ⟨a, b, c⟩
  case h_14 =>
    rw [eo 0 (by decide), eo (2 + i) (by omega)] at hk
    exact hk
  case h_15 =>
    rw [eo 0 (by decide), eo (2 + i) (by omega)] at hk
    exact hk
  case h_16 =>
    obtain ⟨a, b⟩ := hk
    rw [e1] at a
    have : i ≠ L 1 := fun z => h1 ⟨Or.inl rfl, z⟩
    exact ⟨by omega, b⟩
  case h_17 =>
    obtain ⟨a, b⟩ := hk
    rw [e1] at a
    have : i ≠ L 1 := fun z => h1 ⟨Or.inr (Or.inl rfl), z⟩
    exact ⟨by omega, b⟩
  case h_18 =>
    obtain ⟨a, b⟩ := hk
    rw [e1] at a
    have : i ≠ L 1 := fun z => h1 ⟨Or.inr (Or.inr rfl), z⟩
    exact ⟨by omega, b⟩
  all_goals (try rw [eo 0 (by decide)] at hk); exact hk
theorem brl_K {G : XG} {w : XW} {ad : YA} {E : YE} {cp L wd bw : Nat → Nat} {lb : Nat → Option Nat} {I : Nat → Int32} {F : Nat → Nat → Int32} (hR : Rep G w ad E cp L wd bw lb I F) (hz12 : w (G.2 12) = none) {bq gq tq q : Nat} (hq1 : w bq = none) (hq2 : w gq = none) (hq3 : w tq = none) (hq4 : w q = none ∨ (q = (if L 1 = 0 then G.2 12 else ad 6 1 0) ∧ ∃ cap, w (if L 1 = 0 then G.2 12 else ad 6 1 0) = some (.inl (G.2 4, cap, .inr (.inr (.inr (.inr (ldat ad L 1)))))))) :
    ∀ k i j, lvK (va_up L 1 (L 1 + 1)) k i j → (lvK L k i j ∧ brA ad (L 1) bq gq tq q k i j = ad k i j) ∨ (w (brA ad (L 1) bq gq tq q k i j) = none ∧ ((k = 15 ∧ i = L 1 ∧ j = 0) ∨ (k = 16 ∧ i = L 1 ∧ j = 0) ∨ (k = 17 ∧ i = L 1 ∧ j = 0) ∨ (k = 6 ∧ i = 1 ∧ j = 0))) := fun k i j hk => by
  by_cases b1 : (k = 15 ∨ k = 16 ∨ k = 17) ∧ i = L 1
  · obtain ⟨rfl | rfl | rfl, rfl⟩ := b1
    · have hj : j = 0 := hk.2
      subst hj
      exact Or.inr ⟨by rw [brA_15]; exact hq1, Or.inl ⟨rfl, rfl, rfl⟩⟩
    · have hj : j = 0 := hk.2
      subst hj
      exact Or.inr ⟨by rw [brA_16]; exact hq2, Or.inr (Or.inl ⟨rfl, rfl, rfl⟩)⟩
    · have hj : j = 0 := hk.2
      subst hj
      exact Or.inr ⟨by rw [brA_17]; exact hq3, Or.inr (Or.inr (Or.inl ⟨rfl, rfl, rfl⟩))⟩
  · by_cases b3 : k = 6 ∧ i = 1
    · obtain ⟨rfl, rfl⟩ := b3
      have hj : j = 0 := hk.2.1
      subst hj
      rcases hq4 with hq4 | ⟨hq4, cap, h4⟩
      · exact Or.inr ⟨by rw [brA_6]; exact hq4, Or.inr (Or.inr (Or.inr ⟨rfl, rfl, rfl⟩))⟩
      · by_cases hl : L 1 = 0
        · rw [if_pos hl, hz12] at h4
          cases h4
        · rw [if_neg hl] at hq4
          exact Or.inl ⟨⟨by omega, rfl, by omega⟩, by rw [brA_6, hq4]⟩
    · exact Or.inl ⟨live_brl hk b1 b3, brA_o ad _ _ _ _ _ b1 b3⟩
theorem rep_newb {G : XG} {w u : XW} {ad : YA} {E : YE} {cp L wd bw : Nat → Nat} {lb : Nat → Option Nat} {I : Nat → Int32} {F : Nat → Nat → Int32} (hR : Rep G w ad E cp L wd bw lb I F) (hbw : ∀ i b, i < 6 → lb i = some b → b < L 1) (hz12 : w (G.2 12) = none) {bq gq tq q c1 wn : Nat} {fn : Nat → Option Nat} (hwn : wn < 6) (hhas : hasS F (L 1) = 0) (h18 : ∀ g, g < 4 → F 18 (4 * L 1 + g) = 0) (h19 : ∀ t, t < 60 → F 19 (60 * L 1 + t) = 0) (h20 : F 20 (L 1) = 0) (h21 : F 21 (L 1) = 0)
    (hq1 : w bq = none) (hq2 : w gq = none) (hq3 : w tq = none) (n12 : bq ≠ gq) (n13 : bq ≠ tq) (n23 : gq ≠ tq) (hq4 : w q = none ∨ (q = (if L 1 = 0 then G.2 12 else ad 6 1 0) ∧ ∃ cap, w (if L 1 = 0 then G.2 12 else ad 6 1 0) = some (.inl (G.2 4, cap, .inr (.inr (.inr (.inr (ldat ad L 1)))))))) (nq1 : q ≠ bq) (nq2 : q ≠ gq) (nq3 : q ≠ tq)
    (hf1 : fn (L 1) = some bq) (hf2 : ∀ j, j < L 1 → fn j = ldat ad L 1 j) (hf3 : ∀ j, L 1 < j → fn j = none) (hc1 : L 1 + 1 ≤ c1) (hc2 : c1 ≤ 300)
    (hu1 : u bq = some (.inr (1, [.ref (ad 4 wn 0), .int 0, .ref gq, .ref tq, .int 0, .int 0]))) (hu2 : u gq = some (.inl (G.2 0, 4, .inl (fun _ => 0)))) (hu3 : u tq = some (.inl (G.2 0, 60, .inl (fun _ => 0))))
    (hu4 : u (ad 5 1 0) = some (.inr (0, [.int (E 5 1 0 0 + 1), .ref q, .int (nI (L 1 + 1))]))) (hu5 : u q = some (.inl (G.2 4, c1, .inr (.inr (.inr (.inr fn))))))
    (hu6 : u (ad 4 wn 0) = some (.inr (6, [.int (nI wn), .int (F 22 wn), .int (F 23 wn), .int (F 24 wn), .int (F 25 wn), .ref bq])))
    (hfr : ∀ z, z ≠ bq → z ≠ gq → z ≠ tq → z ≠ ad 5 1 0 → z ≠ q → z ≠ ad 4 wn 0 → u z = w z) :
    Rep G u (brA ad (L 1) bq gq tq q) (upE E 5 1 0 0 (E 5 1 0 0 + 1)) (va_up cp 1 c1) (va_up L 1 (L 1 + 1)) wd (va_up bw (L 1) wn) (va_up lb wn (some (L 1))) (va_up I 16 (nI (L 1 + 1))) (setA F 17 (L 1) (nI wn)) := by
  have hK := brl_K hR hz12 hq1 hq2 hq3 hq4
  have wsome : ∀ k i j, lvK L k i j → w (ad k i j) ≠ none := fun k i j hk z => by rw [hR.1 k i j hk] at z; cases z
  have a15 := brA_15 ad (L 1) bq gq tq q
  have a16 := brA_16 ad (L 1) bq gq tq q
  have a17 := brA_17 ad (L 1) bq gq tq q
  have a6 := brA_6 ad (L 1) bq gq tq q
  have ao : ∀ k i j, ¬ ((k = 15 ∨ k = 16 ∨ k = 17) ∧ i = L 1) → ¬ (k = 6 ∧ i = 1) → brA ad (L 1) bq gq tq q k i j = ad k i j := fun k i j b1 b3 => brA_o ad _ _ _ _ _ b1 b3
  obtain ⟨ad', hadx⟩ : ∃ z, z = brA ad (L 1) bq gq tq q := ⟨_, rfl⟩
  rw [← hadx] at hK a15 a16 a17 a6 ⊢
  simp only [← hadx] at ao
  have ak : ∀ k i j, k ≠ 15 → k ≠ 16 → k ≠ 17 → k ≠ 6 → ad' k i j = ad k i j := fun k i j b1 b2 b3 b4 => ao k i j (fun z => z.1.elim b1 (fun y => y.elim b2 b3)) (fun z => b4 z.1)
  have e1 : va_up L 1 (L 1 + 1) 1 = L 1 + 1 := upN_at _ _ _
  have eo : ∀ q, q ≠ 1 → va_up L 1 (L 1 + 1) q = L q := fun q h => upN_ne _ _ h
  refine hR.grow (fun k i j hk => (hK k i j hk).imp id And.left) ?_ (fun k i j => ((k = 15 ∨ k = 16 ∨ k = 17) ∧ i = L 1) ∨ (k = 6 ∧ i = 1) ∨ (k = 5 ∧ i = 1) ∨ (k = 4 ∧ i = wn)) ?_ ?_ ?_
  · intro k i j k' i' j' h1 h2 h4 h5 he
    rcases hK k i j h1 with ⟨b1, b2⟩ | ⟨-, b⟩
    · rw [b2] at h4
      exact absurd h4 (wsome _ _ _ b1)
    · rcases hK k' i' j' h2 with ⟨b1, b2⟩ | ⟨-, b'⟩
      · rw [b2] at h5
        exact absurd h5 (wsome _ _ _ b1)
      · rcases b with ⟨rfl, rfl, rfl⟩ | ⟨rfl, rfl, rfl⟩ | ⟨rfl, rfl, rfl⟩ | ⟨rfl, rfl, rfl⟩ <;> rcases b' with ⟨rfl, rfl, rfl⟩ | ⟨rfl, rfl, rfl⟩ | ⟨rfl, rfl, rfl⟩ | ⟨rfl, rfl, rfl⟩ <;> first
          | exact ⟨rfl, rfl, rfl⟩
          | (rw [a15, a16] at he; exact absurd he n12)
          | (rw [a16, a15] at he; exact absurd he.symm n12)
          | (rw [a15, a17] at he; exact absurd he n13)
          | (rw [a17, a15] at he; exact absurd he.symm n13)
          | (rw [a16, a17] at he; exact absurd he n23)
          | (rw [a17, a16] at he; exact absurd he.symm n23)
          | (rw [a15, a6] at he; exact absurd he.symm nq1)
          | (rw [a6, a15] at he; exact absurd he nq1)
          | (rw [a16, a6] at he; exact absurd he.symm nq2)
          | (rw [a6, a16] at he; exact absurd he nq2)
          | (rw [a17, a6] at he; exact absurd he.symm nq3)
          | (rw [a6, a17] at he; exact absurd he nq3)
  · rintro k i j hk (⟨rfl | rfl | rfl, rfl⟩ | ⟨rfl, rfl⟩ | ⟨rfl, rfl⟩ | ⟨rfl, rfl⟩)
    · have hj : j = 0 := hk.2
      subst hj
      rw [a15, hu1]
      simp [cst, setA_e, a16, a17, upN_at, ak 4 _ _ (by decide) (by decide) (by decide) (by decide), hasS_set, hhas, h20, h21]
    · have hj : j = 0 := hk.2
      subst hj
      rw [a16, hu2]
      simp only [cst]
      refine congrArg (fun z => some (Sum.inl (G.2 0, 4, Sum.inl z))) (funext fun g => ?_)
      rw [bg4_set _ _ _ _ (by decide)]
      unfold bg4
      by_cases hg : g < 4
      · rw [if_pos hg, h18 g hg]
      · rw [if_neg hg]
    · have hj : j = 0 := hk.2
      subst hj
      rw [a17, hu3]
      simp only [cst]
      refine congrArg (fun z => some (Sum.inl (G.2 0, 60, Sum.inl z))) (funext fun g => ?_)
      rw [bt60_set _ _ _ _ (by decide)]
      unfold bt60
      by_cases hg : g < 60
      · rw [if_pos hg, h19 g hg]
      · rw [if_neg hg]
    · have hj : j = 0 := hk.2.1
      subst hj
      rw [a6, hu5]
      simp only [cst]
      rw [upN_at]
      refine congrArg (fun z => some (Sum.inl (G.2 4, c1, Sum.inr (Sum.inr (Sum.inr (Sum.inr z)))))) (funext fun j => ?_)
      unfold ldat
      rw [e1]
      by_cases b1 : j < L 1
      · rw [if_pos (by omega), hf2 j b1]
        unfold ldat
        rw [if_pos b1]
        simp only [lkd, show ¬ (1 : Nat) = 0 by decide, if_false, if_true]
        rw [ao 15 j 0 (fun z => by omega) (fun z => by omega)]
      · by_cases b2 : j = L 1
        · subst b2
          rw [if_pos (by omega), hf1]
          simp only [lkd, show ¬ (1 : Nat) = 0 by decide, if_false, if_true]
          rw [a15]
        · rw [if_neg (by omega), hf3 j (by omega)]
    · have hj : j = 0 := hk.2
      subst hj
      rw [ak 5 _ _ (by decide) (by decide) (by decide) (by decide), hu4]
      simp [cst, e1, a6, upE]
    · have hj : j = 0 := hk.2
      subst hj
      rw [ak 4 _ _ (by decide) (by decide) (by decide) (by decide), hu6]
      have hlb : va_up lb i (some (L 1)) i = some (L 1) := if_pos rfl
      simp [cst, setA_e, hlb, a15, va_rf]
  · intro k i j hk hx
    have b1 : ¬ ((k = 15 ∨ k = 16 ∨ k = 17) ∧ i = L 1) := fun z => hx (Or.inl z)
    have b3 : ¬ (k = 6 ∧ i = 1) := fun z => hx (Or.inr (Or.inl z))
    have b4 : ¬ (k = 5 ∧ i = 1) := fun z => hx (Or.inr (Or.inr (Or.inl z)))
    have b5 : ¬ (k = 4 ∧ i = wn) := fun z => hx (Or.inr (Or.inr (Or.inr z)))
    have hl := live_brl hk b1 b3
    have hlbn : ∀ q, q ≠ wn → va_up lb wn (some (L 1)) q = lb q := fun q hq => if_neg hq
    refine ⟨hl, ao k i j b1 b3, hfr _ (fun z => wsome _ _ _ hl (by rw [z]; exact hq1)) (fun z => wsome _ _ _ hl (by rw [z]; exact hq2)) (fun z => wsome _ _ _ hl (by rw [z]; exact hq3)) (hR.ne hl (⟨by omega, rfl⟩ : lvK L 5 1 0) (fun z => b4 ⟨z.1, z.2.1⟩)) ?_ (hR.ne hl (⟨hwn, rfl⟩ : lvK L 4 wn 0) (fun z => b5 ⟨z.1, z.2.1⟩)), ?_, ?_⟩
    · intro z
      rcases hq4 with hq4 | ⟨hq4, cap, h4⟩
      · exact wsome _ _ _ hl (by rw [z]; exact hq4)
      · by_cases hl0 : L 1 = 0
        · rw [if_pos hl0, hz12] at h4
          cases h4
        · rw [if_neg hl0] at hq4
          rw [hq4] at z
          exact hR.ne hl (show lvK L 6 1 0 from ⟨by omega, rfl, by omega⟩) (fun y => b3 ⟨y.1, y.2.1⟩) z
    · unfold agr
      split
      case h_5 => exact ⟨by simp [setA_e], by simp [setA_e], by simp [setA_e], by simp [setA_e], hlbn i (fun z => b5 ⟨rfl, z⟩)⟩
      case h_6 => simp [upE, show ¬ i = 1 from fun z => b4 ⟨rfl, z⟩]
      all_goals simp_all [setA_e, setA_n, cupS, hasS, gr4_set, bg4_set, bt60_set, l_sum, upE_k, va_up]
    · unfold agrR
      split
      case h_1 => exact ⟨ak _ _ _ (by decide) (by decide) (by decide) (by decide), ak _ _ _ (by decide) (by decide) (by decide) (by decide), ak _ _ _ (by decide) (by decide) (by decide) (by decide), ak _ _ _ (by decide) (by decide) (by decide) (by decide), ak _ _ _ (by decide) (by decide) (by decide) (by decide), ak _ _ _ (by decide) (by decide) (by decide) (by decide), ak _ _ _ (by decide) (by decide) (by decide) (by decide)⟩
      case h_2 => funext j'; simp only [six, ak 4 _ _ (by decide) (by decide) (by decide) (by decide)]
      case h_3 => exact fun b hb => ao 15 b 0 (fun z => by have := hbw i b hl.1 hb; omega) (fun z => by omega)
      case h_4 => exact ⟨eo _ (fun z => b4 ⟨rfl, z⟩), Or.inr (ao 6 i 0 (fun z => by omega) (fun z => b4 ⟨rfl, z.2⟩))⟩
      case h_5 =>
        have hi1 : i ≠ 1 := fun z => b3 ⟨rfl, z⟩
        refine ⟨upN_ne _ _ hi1, ?_⟩
        funext j'
        unfold ldat lkd
        rw [eo _ hi1, ak 13 _ _ (by decide) (by decide) (by decide) (by decide), ak 12 _ _ (by decide) (by decide) (by decide) (by decide), if_neg hi1, if_neg hi1]
      case h_6 => exact ⟨ak _ _ _ (by decide) (by decide) (by decide) (by decide), ak _ _ _ (by decide) (by decide) (by decide) (by decide), ak _ _ _ (by decide) (by decide) (by decide) (by decide), ak _ _ _ (by decide) (by decide) (by decide) (by decide), ak _ _ _ (by decide) (by decide) (by decide) (by decide), ak _ _ _ (by decide) (by decide) (by decide) (by decide), ak _ _ _ (by decide) (by decide) (by decide) (by decide), ak _ _ _ (by decide) (by decide) (by decide) (by decide)⟩
      case h_7 => funext j'; simp only [six, ak 11 _ _ (by decide) (by decide) (by decide) (by decide)]
      case h_8 => exact ⟨ak _ _ _ (by decide) (by decide) (by decide) (by decide), ak _ _ _ (by decide) (by decide) (by decide) (by decide)⟩
      case h_9 => exact ak 14 i j (by decide) (by decide) (by decide) (by decide)
      case h_10 =>
        have : i ≠ L 1 := fun z => b1 ⟨Or.inl rfl, z⟩
        exact ⟨by rw [upN_ne _ _ this, ak 4 _ _ (by decide) (by decide) (by decide) (by decide)], ao 16 i 0 (fun z => this z.2) (fun z => by omega), ao 17 i 0 (fun z => this z.2) (fun z => by omega)⟩
      all_goals trivial
  · intro i hi
    rw [eo 0 (by decide)] at hi
    by_cases h : i = 1
    · subst h
      rw [upN_at, upN_at]
      omega
    · rw [upN_ne _ _ h, upN_ne _ _ h]
      exact hR.2.2 i hi
