section IC
variable {now : Nat} {L wd bw : Nat → Nat} {lb : Nat → Option Nat} {I : Nat → Int32} {F : Nat → Nat → Int32}
theorem inv_cut (h : Inv now L wd bw lb I F) {t i sk : Nat} (ht : t < L 0) (hi : i < L (2 + t)) (hs : F 11 (3 * t + i) = nI sk) (hsk : sk < 40) {y : Int32} : Inv now L wd bw lb I (setA (setA (setA F 11 (3 * t + i) (F 11 (3 * t + i) + 1)) 12 (3 * t + i) (I 0)) 10 t y) := by
  obtain ⟨hA, hT, hZ, hF, hB⟩ := h
  obtain ⟨F', hF'⟩ : ∃ z, z = setA (setA (setA F 11 (3 * t + i) (F 11 (3 * t + i) + 1)) 12 (3 * t + i) (I 0)) 10 t y := ⟨_, rfl⟩
  rw [← hF']
  have n : ∀ k, k ≠ 10 → k ≠ 11 → k ≠ 12 → F' k = F k := fun k a b c => by rw [hF', setA_n _ _ _ a, setA_n _ _ _ c, setA_n _ _ _ b]
  have h3 : L (2 + t) ≤ 3 := (hT t ht).2.2.2.2.2.2.2
  have h60 : L 0 ≤ 60 := hA.2.2.2.1
  have e10 : ∀ q, q ≠ t → F' 10 q = F 10 q := fun q hq => by rw [hF']; simp [setA_e, hq]
  have e11 : ∀ q, q ≠ 3 * t + i → F' 11 q = F 11 q := fun q hq => by rw [hF']; simp [setA_e, hq]
  have e12 : ∀ q, q ≠ 3 * t + i → F' 12 q = F 12 q := fun q hq => by rw [hF']; simp [setA_e, hq]
  have f11 : F' 11 (3 * t + i) = nI (sk + 1) := by rw [hF']; simp [setA_e, hs]; exact nI_1 sk
  have f12 : F' 12 (3 * t + i) = nI now := by rw [hF']; simp [setA_e]; exact hA.1
  refine ⟨IvA_c rfl rfl rfl (n 1 (by decide) (by decide) (by decide)) (n 2 (by decide) (by decide) (by decide)) hA, ?_, ?_, ?_, IvB_c rfl rfl (n 17 (by decide) (by decide) (by decide)) (n 18 (by decide) (by decide) (by decide)) (n 19 (by decide) (by decide) (by decide)) (n 20 (by decide) (by decide) (by decide)) (n 21 (by decide) (by decide) (by decide)) (n 22 (by decide) (by decide) (by decide)) (n 23 (by decide) (by decide) (by decide)) (n 24 (by decide) (by decide) (by decide)) hB⟩
  · unfold IvT
    rw [n 4 (by decide) (by decide) (by decide), n 5 (by decide) (by decide) (by decide), n 6 (by decide) (by decide) (by decide), n 7 (by decide) (by decide) (by decide), n 8 (by decide) (by decide) (by decide), n 9 (by decide) (by decide) (by decide)]
    exact hT
  · refine ⟨fun q a b => ?_, fun q j a b c => ?_⟩
    · rw [n 8 (by decide) (by decide) (by decide), n 9 (by decide) (by decide) (by decide), e10 q (by omega)]
      exact hZ.1 q a b
    · rw [e11 _ (fun z => by have hqt : q = t := (by omega); subst hqt; omega), n 15 (by decide) (by decide) (by decide), n 14 (by decide) (by decide) (by decide)]
      exact hZ.2 q j a b c
  · obtain ⟨g1, g2, g3⟩ := hF
    refine ⟨by rw [n 14 (by decide) (by decide) (by decide)]; exact g1, fun q hq j hj => ?_, by rw [n 8 (by decide) (by decide) (by decide), n 14 (by decide) (by decide) (by decide)]; exact g3⟩
    have hq3 : L (2 + q) ≤ 3 := (hT q hq).2.2.2.2.2.2.2
    obtain ⟨a1, a2, a3⟩ := g2 q hq j hj
    rw [n 13 (by decide) (by decide) (by decide)]
    by_cases e : 3 * q + j = 3 * t + i
    · rw [e] at a2 ⊢
      exact ⟨⟨now, f12, Nat.le_refl _⟩, a2, sk + 1, f11, by omega⟩
    · rw [e11 _ e, e12 _ e]
      exact ⟨a1, a2, a3⟩
theorem bear_lt {g : Int32} {n : Nat} (hn : n ≤ 3) (h : ¬ bearI g ≤ nI n) : nI (n + 1) ≤ bearI g ∧ n < 3 := by
  have hb : bearI g = 0 ∨ bearI g = 1 ∨ bearI g = 2 ∨ bearI g = 3 := by
    unfold bearI
    split <;> (try split) <;> (try split) <;> simp
  have : n = 0 ∨ n = 1 ∨ n = 2 ∨ n = 3 := by omega
  rcases this with rfl | rfl | rfl | rfl <;> rcases hb with e | e | e | e <;> rw [e] at h ⊢ <;> first | exact absurd (by decide) h | exact ⟨by decide, by decide⟩
theorem inv_open (h : Inv now L wd bw lb I F) {t : Nat} (ht : t < L 0) (hb : ¬ bearI (F 7 t) ≤ nI (L (2 + t))) {y : Int32} : Inv now (va_up L (2 + t) (L (2 + t) + 1)) wd bw lb I (setA (setA (setA (setA (setA F 9 t (F 9 t + 1)) 13 (3 * t + L (2 + t)) (I 0 / 365)) 11 (3 * t + L (2 + t)) (F 11 (3 * t + L (2 + t)) + 1)) 12 (3 * t + L (2 + t)) (I 0)) 10 t y) := by
  obtain ⟨hA, hT, hZ, hF, hB⟩ := h
  obtain ⟨f, hf⟩ : ∃ z, z = 3 * t + L (2 + t) := ⟨_, rfl⟩
  rw [← hf]
  obtain ⟨F', hF'⟩ : ∃ z, z = setA (setA (setA (setA (setA F 9 t (F 9 t + 1)) 13 f (I 0 / 365)) 11 f (F 11 f + 1)) 12 f (I 0)) 10 t y := ⟨_, rfl⟩
  rw [← hF']
  have n : ∀ k, k ≠ 9 → k ≠ 13 → k ≠ 10 → k ≠ 11 → k ≠ 12 → F' k = F k := fun k a b c d e => by rw [hF', setA_n _ _ _ c, setA_n _ _ _ e, setA_n _ _ _ d, setA_n _ _ _ b, setA_n _ _ _ a]
  have h3 : L (2 + t) ≤ 3 := (hT t ht).2.2.2.2.2.2.2
  obtain ⟨hb1, hb2⟩ := bear_lt h3 hb
  have h60 : L 0 ≤ 60 := hA.2.2.2.1
  have e9 : ∀ q, q ≠ t → F' 9 q = F 9 q := fun q hq => by rw [hF']; simp [setA_e, hq]
  have e10 : ∀ q, q ≠ t → F' 10 q = F 10 q := fun q hq => by rw [hF']; simp [setA_e, hq]
  have e11 : ∀ q, q ≠ f → F' 11 q = F 11 q := fun q hq => by rw [hF']; simp [setA_e, hq]
  have e12 : ∀ q, q ≠ f → F' 12 q = F 12 q := fun q hq => by rw [hF']; simp [setA_e, hq]
  have e13 : ∀ q, q ≠ f → F' 13 q = F 13 q := fun q hq => by rw [hF']; simp [setA_e, hq]
  have hz := hZ.2 t (L (2 + t)) (by omega) hb2 (Or.inr (Nat.le_refl _))
  rw [← hf] at hz
  have f9 : F' 9 t = nI (L (2 + t) + 1) := by rw [hF']; simp [setA_e, (hT t ht).2.2.2.2.2.1]; exact nI_1 _
  have f11 : F' 11 f = nI 1 := by rw [hF']; simp [setA_e, hz.1]; rfl
  have f12 : F' 12 f = nI now := by rw [hF']; simp [setA_e]; exact hA.1
  have f13 : F' 13 f = nI (now / 365) := by
    rw [hF']
    simp [setA_e]
    rw [hA.1, show (365 : Int32) = nI 365 from rfl, pk_div (by have := hA.2.1; omega) (by decide) (by decide)]
  have l0 : va_up L (2 + t) (L (2 + t) + 1) 0 = L 0 := upN_ne _ _ (by omega)
  have l1 : va_up L (2 + t) (L (2 + t) + 1) 1 = L 1 := upN_ne _ _ (by omega)
  have lt : va_up L (2 + t) (L (2 + t) + 1) (2 + t) = L (2 + t) + 1 := upN_at _ _ _
  have lo : ∀ q, q ≠ t → va_up L (2 + t) (L (2 + t) + 1) (2 + q) = L (2 + q) := fun q hq => upN_ne _ _ (by omega)
  refine ⟨IvA_c l0 rfl rfl (n 1 (by decide) (by decide) (by decide) (by decide) (by decide)) (n 2 (by decide) (by decide) (by decide) (by decide) (by decide)) hA, ?_, ?_, ?_, IvB_c l1 rfl (n 17 (by decide) (by decide) (by decide) (by decide) (by decide)) (n 18 (by decide) (by decide) (by decide) (by decide) (by decide)) (n 19 (by decide) (by decide) (by decide) (by decide) (by decide)) (n 20 (by decide) (by decide) (by decide) (by decide) (by decide)) (n 21 (by decide) (by decide) (by decide) (by decide) (by decide)) (n 22 (by decide) (by decide) (by decide) (by decide) (by decide)) (n 23 (by decide) (by decide) (by decide) (by decide) (by decide)) (n 24 (by decide) (by decide) (by decide) (by decide) (by decide)) hB⟩
  · intro q hq
    rw [l0] at hq
    obtain ⟨a1, a2, a3, a4, a5, a6, a7, a8⟩ := hT q hq
    rw [n 4 (by decide) (by decide) (by decide) (by decide) (by decide), n 5 (by decide) (by decide) (by decide) (by decide) (by decide), n 6 (by decide) (by decide) (by decide) (by decide) (by decide), n 7 (by decide) (by decide) (by decide) (by decide) (by decide), n 8 (by decide) (by decide) (by decide) (by decide) (by decide)]
    refine ⟨a1, a2, a3, a4, a5, ?_⟩
    by_cases e : q = t
    · subst e
      rw [f9, lt]
      exact ⟨rfl, hb1, by omega⟩
    · rw [e9 q e, lo q e]
      exact ⟨a6, a7, a8⟩
  · refine ⟨fun q a b => ?_, fun q j a b c => ?_⟩
    · rw [l0] at a
      rw [n 8 (by decide) (by decide) (by decide) (by decide) (by decide), e9 q (by omega), e10 q (by omega)]
      exact hZ.1 q a b
    · rw [l0] at c
      have hne : ¬ 3 * q + j = f := fun z => by
        have hq : q = t := by omega
        subst hq
        rw [lt] at c
        omega
      rw [e11 _ hne, n 15 (by decide) (by decide) (by decide) (by decide) (by decide), n 14 (by decide) (by decide) (by decide) (by decide) (by decide)]
      refine hZ.2 q j a b (c.imp id (fun z => ?_))
      by_cases e : q = t
      · subst e
        rw [lt] at z
        omega
      · rw [lo q e] at z
        exact z
  · obtain ⟨g1, g2, g3⟩ := hF
    refine ⟨by rw [n 14 (by decide) (by decide) (by decide) (by decide) (by decide)]; exact g1, fun q hq j hj => ?_, by rw [l0, n 8 (by decide) (by decide) (by decide) (by decide) (by decide), n 14 (by decide) (by decide) (by decide) (by decide) (by decide)]; exact g3⟩
    rw [l0] at hq
    have hq3 : L (2 + q) ≤ 3 := (hT q hq).2.2.2.2.2.2.2
    by_cases e : 3 * q + j = f
    · rw [e]
      exact ⟨⟨now, f12, Nat.le_refl _⟩, ⟨now / 365, f13, Nat.le_refl _⟩, 1, f11, by decide⟩
    · rw [e11 _ e, e12 _ e, e13 _ e]
      refine g2 q hq j ?_
      by_cases e2 : q = t
      · subst e2
        rw [lt] at hj
        omega
      · rw [lo q e2] at hj
        exact hj
/-- what cut answers: no tree, burnt, at rest -/
theorem sCut_0 {t fc : Int32} {nT : Nat} (hn : I 3 = nI nT) (hT : nT ≤ 60) (hno : ∀ j, j < nT → ¬ t = nI j) : sCut I F t fc = (-1, I, F) := if_pos (binN hn hno (by omega))
theorem sCut_1 {t nT : Nat} {fc : Int32} (hn : I 3 = nI nT) (hT : nT ≤ 60) (ht : t < nT) (h8 : ¬ F 8 t = 0) : sCut I F (nI t) fc = (-1, I, F) := by
  unfold sCut
  rw [if_neg (binP hn ht (by omega)), ix_n (by omega), if_neg h8]
theorem sCut_2 {t nT : Nat} {fc : Int32} (hn : I 3 = nI nT) (hT : nT ≤ 60) (ht : t < nT) (h8 : F 8 t = 0) (hr : ¬ sRests I F (nI t) = 0) : sCut I F (nI t) fc = (-1, I, F) := by
  unfold sCut
  rw [if_neg (binP hn ht (by omega)), ix_n (by omega), if_pos h8, if_neg hr]
theorem bin_le {j n : Nat} {X : Int32} (hX : X = nI n) (h : j ≤ n) (hn : n < 2 ^ 31) : ¬ binI (nI j) 0 X = 0 := by rw [hX]; exact binI_1.mpr (inI_of (a := 0) (by omega) h hn)
theorem sCut_3 {t nT i o : Nat} (hn : I 3 = nI nT) (hT : nT ≤ 60) (ht : t < nT) (h8 : F 8 t = 0) (hr : sRests I F (nI t) = 0) (h9 : F 9 t = nI o) (ho : o ≤ 3) (hi : i < o) (h7 : inI (F 7 t) 20 400) (hb : nI o ≤ bearI (F 7 t)) : sCut I F (nI t) (nI i) = (if I 0 - F 12 (3 * t + i) < 5 then (-1, I, F) else if F 11 (3 * t + i) = 40 then (-1, I, F) else (F 11 (3 * t + i) + 1, I, setA (setA (setA F 11 (3 * t + i) (F 11 (3 * t + i) + 1)) 12 (3 * t + i) (I 0)) 10 t (F 10 t ||| (1 <<< (I 0 / 365 &&& 31))))) := by
  unfold sCut
  rw [if_neg (binP hn ht (by omega)), ix_n (by omega), ix_n (by omega), if_pos h8, if_pos hr, if_neg (bin_le h9 (by omega) (by omega)), if_neg (binI_1.mpr h7), if_pos (show nI i < bearI (F 7 t) from by
    have := nI_lt hi (show o < 2 ^ 31 by omega)
    rw [Int32.lt_iff_toInt_lt] at this ⊢
    rw [Int32.le_iff_toInt_le] at hb
    omega), if_neg (show ¬ F 9 t ≤ nI i from by rw [h9]; exact nI_ge hi (by omega))]
theorem sCut_4 {t nT o : Nat} {fc : Int32} (hn : I 3 = nI nT) (hT : nT ≤ 60) (ht : t < nT) (h8 : F 8 t = 0) (hr : sRests I F (nI t) = 0) (h9 : F 9 t = nI o) (ho : o ≤ 3) (h7 : inI (F 7 t) 20 400) (hno : ∀ j, j < o → ¬ fc = nI j) (hmo : (if fc = nI o then (if bearI (F 7 t) ≤ fc then (0 : Int32) else 1) else 0) = 0) : sCut I F (nI t) fc = (-1, I, F) := by
  unfold sCut
  rw [if_neg (binP hn ht (by omega)), ix_n (by omega), if_pos h8, if_pos hr]
  by_cases e : fc = nI o
  · rw [if_pos e] at hmo
    have hbl : bearI (F 7 t) ≤ fc := by
      by_cases q : bearI (F 7 t) ≤ fc
      · exact q
      · rw [if_neg q] at hmo
        exact absurd hmo (by decide)
    rw [if_neg (show ¬ binI fc 0 (F 9 t) = 0 from by rw [e]; exact bin_le h9 (Nat.le_refl _) (by omega)), if_neg (binI_1.mpr h7), if_neg (show ¬ fc < bearI (F 7 t) from by
      rw [Int32.lt_iff_toInt_lt]
      rw [Int32.le_iff_toInt_le] at hbl
      omega)]
  · rw [if_pos (show binI fc 0 (F 9 t) = 0 from binI_0.mpr (fun h => by
      rw [h9] at h
      obtain ⟨j, -, h1, h2⟩ := inI_nat (a := 0) h (by decide) (by omega)
      by_cases q : j = o
      · exact e (by rw [h2, q])
      · exact hno j (by omega) h2))]
theorem sCut_5 {t nT o : Nat} (hn : I 3 = nI nT) (hT : nT ≤ 60) (ht : t < nT) (h8 : F 8 t = 0) (hr : sRests I F (nI t) = 0) (h9 : F 9 t = nI o) (ho : o ≤ 3) (h7 : inI (F 7 t) 20 400) (hb : ¬ bearI (F 7 t) ≤ nI o) : sCut I F (nI t) (nI o) = (F 11 (3 * t + o) + 1, I, setA (setA (setA (setA (setA F 9 t (F 9 t + 1)) 13 (3 * t + o) (I 0 / 365)) 11 (3 * t + o) (F 11 (3 * t + o) + 1)) 12 (3 * t + o) (I 0)) 10 t (F 10 t ||| (1 <<< (I 0 / 365 &&& 31)))) := by
  unfold sCut
  rw [if_neg (binP hn ht (by omega)), ix_n (by omega), ix_n (by omega), if_pos h8, if_pos hr, if_neg (bin_le h9 (Nat.le_refl _) (by omega)), if_neg (binI_1.mpr h7), if_pos (show nI o < bearI (F 7 t) from by
    rw [Int32.lt_iff_toInt_lt]
    rw [Int32.le_iff_toInt_le] at hb
    omega), if_pos (show F 9 t ≤ nI o from by rw [h9]; exact nI_le (Nat.le_refl _) (by omega))]
end IC
