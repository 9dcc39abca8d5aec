/-! FILLING, in numbers -/
def hsF (F : Nat → Nat → Int32) (q : Nat) : Nat := ix (hasS F q)
def capF (F : Nat → Nat → Int32) (w : Int32) (n : Nat) : Nat := capN F (hsF F) w n
theorem hsF_eq {I : Nat → Int32} {F : Nat → Nat → Int32} {hs : Nat → Nat} {n : Nat} (h : BV I F hs n) {q : Nat} (hq : q < 200) : hsF F q = hs q := by
  obtain ⟨-, -, h3, -⟩ := h
  obtain ⟨a, b⟩ := h3 q hq
  unfold hsF
  rw [a, ix_n (by omega)]
theorem capF_eq {I : Nat → Int32} {F : Nat → Nat → Int32} {hs : Nat → Nat} {n : Nat} (h : BV I F hs n) (w : Int32) : capF F w n = capN F hs w n := by
  unfold capF capN
  rw [orN_same (F := F) (F' := F) (hs := hs) (hs' := hsF F) n (fun q hq => by unfold ctr; rw [hsF_eq h (by have := h.2.1; omega)])]
theorem noOpen {L bw : Nat → Nat} {F : Nat → Nat → Int32} {i : Nat} {o : Option Nat} (h : lbOk L bw F i o) (hf : ∀ b, o = some b → ¬ fullI F b = 0) : ∀ q, q < L 1 → bw q = i → fullI F q = 1 := by
  intro q hq hw
  cases o with
  | none => exact absurd hw (h q hq)
  | some b =>
    by_cases e : q = b
    · rcases fullI_01 F q with z | z
      · exact absurd (by rw [← e]; exact z) (hf b rfl)
      · exact z
    · exact h.2.2 q hq e hw
theorem fst_old {L bw wd : Nat → Nat} {F : Nat → Nat → Int32} {t b : Nat} (h4 : F 4 t = nI (wd t)) (h6 : wd t < 6) (hB : ∀ q, q < L 1 → F 17 q = nI (bw q) ∧ bw q < 6) (hb : b < L 1) (hbw : bw b = wd t) (hop : fullI F b = 0) (ho : ∀ q, q < L 1 → q ≠ b → bw q = wd t → fullI F q = 1) : b = fstB F (F 4 t) (L 1) 0 := by
  obtain ⟨s1, s2, s3, s4⟩ := fstB_spec F (F 4 t) (L 1) 0
  have hopn : opnB F (F 4 t) b := ⟨by rw [(hB b hb).1, h4, hbw], hop⟩
  by_cases hlt : fstB F (F 4 t) (L 1) 0 < L 1
  · obtain ⟨z1, z2⟩ := s3 (by omega)
    apply Classical.byContradiction
    intro hne
    have hw : bw (fstB F (F 4 t) (L 1) 0) = wd t := (nI_eq (by have := (hB _ hlt).2; omega) (by omega)).mp ((hB _ hlt).1.symm.trans (z1.trans h4))
    have := ho _ hlt (fun z => hne z.symm) hw
    rw [z2] at this
    exact absurd this (by decide)
  · exact absurd hopn (s4 b (by omega) (by omega))
theorem fst_new {L bw wd : Nat → Nat} {F : Nat → Nat → Int32} {t : Nat} (h4 : F 4 t = nI (wd t)) (h6 : wd t < 6) (hB : ∀ q, q < L 1 → F 17 q = nI (bw q) ∧ bw q < 6) (ho : ∀ q, q < L 1 → bw q = wd t → fullI F q = 1) : L 1 = fstB F (F 4 t) (L 1) 0 := by
  obtain ⟨s1, s2, s3, s4⟩ := fstB_spec F (F 4 t) (L 1) 0
  by_cases hlt : fstB F (F 4 t) (L 1) 0 < L 1
  · obtain ⟨z1, z2⟩ := s3 (by omega)
    have hw : bw (fstB F (F 4 t) (L 1) 0) = wd t := (nI_eq (by have := (hB _ hlt).2; omega) (by omega)).mp ((hB _ hlt).1.symm.trans (z1.trans h4))
    have := ho _ hlt hw
    rw [z2] at this
    exact absurd this (by decide)
  · omega
theorem grade_le {F : Nat → Nat → Int32} {b h g x : Nat} (hb : b < 200) (hg : ∀ q, q < 800 → ∃ x, F 18 q = nI x ∧ x ≤ 1000) (hh : hasS F b = nI h) (hle : h ≤ 1000) (hg4 : g < 4) (hx : F 18 (4 * b + g) = nI x) (hx2 : x ≤ 1000) : x ≤ h := by
  obtain ⟨x0, e0, l0⟩ := hg (4 * b + 0) (by omega)
  obtain ⟨x1, e1, l1⟩ := hg (4 * b + 1) (by omega)
  obtain ⟨x2, e2, l2⟩ := hg (4 * b + 2) (by omega)
  obtain ⟨x3, e3, l3⟩ := hg (4 * b + 3) (by omega)
  have hs : hasS F b = nI (0 + x0 + x1 + x2 + x3) := by
    unfold hasS
    show (((0 + F 18 (4 * b + 0)) + F 18 (4 * b + 1)) + F 18 (4 * b + 2)) + F 18 (4 * b + 3) = _
    rw [e0, e1, e2, e3, show (0 : Int32) = nI 0 from rfl, nI_add, nI_add, nI_add, nI_add]
  have hx0 : h = 0 + x0 + x1 + x2 + x3 := (nI_eq (by omega) (by omega)).mp (hh.symm.trans hs)
  have : g = 0 ∨ g = 1 ∨ g = 2 ∨ g = 3 := by omega
  rcases this with rfl | rfl | rfl | rfl
  · have := (nI_eq (by omega) (by omega)).mp (hx.symm.trans e0); omega
  · have := (nI_eq (by omega) (by omega)).mp (hx.symm.trans e1); omega
  · have := (nI_eq (by omega) (by omega)).mp (hx.symm.trans e2); omega
  · have := (nI_eq (by omega) (by omega)).mp (hx.symm.trans e3); omega
section FI
variable {now : Nat} {L wd bw : Nat → Nat} {lb : Nat → Option Nat} {I : Nat → Int32} {F : Nat → Nat → Int32}
/-- the numbers behind one filling, old barrel or new -/
theorem inv_fill {F1 F3 : Nat → Nat → Int32} {L' bw' : Nat → Nat} {lb' : Nat → Option Nat} {I' : Nat → Int32} (h : Inv now L wd bw lb I F) {t g a b c nB' : Nat} (ht : t < L 0) (hg : g < 4) (ha : 0 < a) (hcap : a ≤ capF F (nI (wd t)) (L 1)) (hb : b = fstB F (F 4 t) (L 1) 0)
    (hcase : (b = L 1 ∧ nB' = L 1 + 1 ∧ F1 = setA F 17 b (F 4 t) ∧ I' 16 = nI (L 1 + 1) ∧ bw' = va_up bw b (wd t) ∧ lb' = va_up lb (wd t) (some b) ∧ ∀ q, q < L 1 → bw q = wd t → fullI F q = 1) ∨ (¬ b = L 1 ∧ nB' = L 1 ∧ F1 = F ∧ I' 16 = nI (L 1) ∧ bw' = bw ∧ lb' = lb ∧ bw b = wd t))
    (hI : ∀ k, k ≠ 16 → I' k = I k) (hL1 : L' 1 = nB') (hLo : ∀ i, i ≠ 1 → L' i = L i) (hc : c = if 1000 - hsF F b ≤ a then 1000 - hsF F b else a)
    (h3 : F3 = setA (setA F1 18 (4 * b + g) (F 18 (4 * b + g) + nI c)) 19 (60 * b + t) (F 19 (60 * b + t) + nI c)) :
    b < 200 ∧ 1 ≤ c ∧ c ≤ a ∧ hsF F b + c ≤ 1000 ∧ hasS F b = nI (hsF F b) ∧ Inv now L' wd bw' lb' I' F3 ∧ capF F3 (nI (wd t)) nB' + c = capF F (nI (wd t)) (L 1) := by
  obtain ⟨hA, hT, hZ, hF, hs, v1, v2, v3, v4, v5, v6⟩ := h
  have h60 : L 0 ≤ 60 := hA.2.2.2.1
  obtain ⟨t4, t6, -⟩ := hT t ht
  rw [capF_eq v1, ← t4] at hcap
  have hb200 : b < 200 := by
    obtain ⟨s1, s2, s3, s4⟩ := fstB_spec F (F 4 t) (L 1) 0
    rw [← hb] at s1 s2 s3 s4
    rcases hcase with ⟨e, -⟩ | ⟨e, -⟩
    · have : orN F hs (F 4 t) (L 1) = 0 := orN_none (L 1) (fun q hq => s4 q (by omega) (by omega))
      unfold capN at hcap
      omega
    · have := v1.2.1
      omega
  have hsb := hsF_eq v1 hb200
  rw [hsb] at hc ⊢
  obtain ⟨f1, f2, f3, f4, f5, f6⟩ := fil_step (I := I) (F := F) (F1 := F1) (F3 := F3) (hs := hs) (nB := L 1) (nB' := nB') (t := t) (g := g) (a := a) (b := b) (c := c) (I' := I') hg v1 ha hcap hb (by omega) (hcase.imp (fun z => ⟨z.1, z.2.1, z.2.2.1, z.2.2.2.1⟩) (fun z => ⟨z.1, z.2.1, z.2.2.1, z.2.2.2.1⟩)) hc h3
  have F1n : ∀ k, k ≠ 17 → F1 k = F k := fun k hk => by
    rcases hcase with ⟨-, -, e, -⟩ | ⟨-, -, e, -⟩ <;> rw [e]
    exact setA_n _ _ _ hk
  have n : ∀ k, k ≠ 17 → k ≠ 18 → k ≠ 19 → F3 k = F k := fun k p q r => by rw [h3, setA_n _ _ _ r, setA_n _ _ _ q, F1n k p]
  have e18 : ∀ q, F3 18 q = if q = 4 * b + g then F 18 q + nI c else F 18 q := fun q => by
    rw [h3, setA_n _ _ _ (by decide), setA_e, F1n 18 (by decide)]
    by_cases e : q = 4 * b + g
    · rw [if_pos ⟨rfl, e⟩, if_pos e, e]
    · rw [if_neg (fun z => e z.2), if_neg e]
  have e19 : ∀ q, q ≠ 60 * b + t → F3 19 q = F 19 q := fun q hq => by rw [h3, setA_e, if_neg (fun z => hq z.2), setA_n _ _ _ (by decide), F1n 19 (by decide)]
  have e17 : ∀ q, q ≠ b → F3 17 q = F 17 q := fun q hq => by
    rw [h3, setA_n _ _ _ (by decide), setA_n _ _ _ (by decide)]
    rcases hcase with ⟨-, -, e, -⟩ | ⟨-, -, e, -⟩ <;> rw [e]
    rw [setA_e, if_neg (fun z => hq z.2)]
  have e17b : F3 17 b = nI (wd t) := by
    rw [h3, setA_n _ _ _ (by decide), setA_n _ _ _ (by decide)]
    rcases hcase with ⟨-, -, e, -⟩ | ⟨q, -, e, -, -, -, hw⟩
    · rw [e, setA_e, if_pos ⟨rfl, rfl⟩, t4]
    · rw [e]
      have hbl : b < L 1 := by
        have := (fstB_spec F (F 4 t) (L 1) 0).2.1
        omega
      rw [(v2 b hbl).1, hw]
  have hbo : ∀ q, q ≠ b → bw' q = bw q := fun q hq => by
    rcases hcase with ⟨-, -, -, -, e, -⟩ | ⟨-, -, -, -, e, -⟩ <;> rw [e]
    exact upN_ne _ _ hq
  have hbb : bw' b = wd t := by
    rcases hcase with ⟨-, -, -, -, e, -⟩ | ⟨-, -, -, -, e, -, hw⟩
    · rw [e, upN_at]
    · rw [e, hw]
  have hble : b ≤ L 1 := by
    have := (fstB_spec F (F 4 t) (L 1) 0).2.1
    omega
  have hbn : b < nB' ∧ L 1 ≤ nB' ∧ (∀ q, q < nB' → q ≠ b → q < L 1) := by
    rcases hcase with ⟨e1, e2, -⟩ | ⟨e1, e2, -⟩
    · exact ⟨by omega, by omega, fun q p r => by omega⟩
    · exact ⟨by omega, by omega, fun q p r => by omega⟩
  have hfo : ∀ q, q ≠ b → fullI F3 q = fullI F q := fun q hq => fullI_eq (by
    unfold hasS
    exact ls_cg 4 (fun g' hg' => by rw [e18, if_neg (by omega)])) (by rw [n 20 (by decide) (by decide) (by decide)]) (by rw [n 21 (by decide) (by decide) (by decide)])
  refine ⟨f1, f2, f3, f4, (v1.2.2.1 b hb200).1, ⟨IvA_c (hLo 0 (by decide)) (hI 0 (by decide)) (hI 3 (by decide)) (n 1 (by decide) (by decide) (by decide)) (n 2 (by decide) (by decide) (by decide)) hA, ?_, ?_, ?_, va_up hs b (hs b + c), by rw [hL1]; exact f5, ?_, ?_, ?_, ?_, ?_⟩, ?_⟩
  · intro q hq
    rw [hLo 0 (by decide)] at hq
    rw [n 4 (by decide) (by decide) (by decide), n 5 (by decide) (by decide) (by decide), n 6 (by decide) (by decide) (by decide), n 7 (by decide) (by decide) (by decide), n 8 (by decide) (by decide) (by decide), n 9 (by decide) (by decide) (by decide), hLo (2 + q) (by omega)]
    exact hT q hq
  · rw [IvZ, n 8 (by decide) (by decide) (by decide), n 9 (by decide) (by decide) (by decide), n 10 (by decide) (by decide) (by decide), n 11 (by decide) (by decide) (by decide), n 14 (by decide) (by decide) (by decide), n 15 (by decide) (by decide) (by decide), hLo 0 (by decide)]
    exact ⟨hZ.1, fun q i p1 p2 p3 => hZ.2 q i p1 p2 (by rw [hLo (2 + q) (by omega)] at p3; exact p3)⟩
  · rw [IvF, n 8 (by decide) (by decide) (by decide), n 11 (by decide) (by decide) (by decide), n 12 (by decide) (by decide) (by decide), n 13 (by decide) (by decide) (by decide), n 14 (by decide) (by decide) (by decide), hLo 0 (by decide)]
    exact ⟨hF.1, fun q hq i hi => hF.2.1 q hq i (by rw [hLo (2 + q) (by omega)] at hi; exact hi), hF.2.2⟩
  · intro q hq
    rw [hL1] at hq
    rw [n 20 (by decide) (by decide) (by decide), n 21 (by decide) (by decide) (by decide)]
    by_cases e : q = b
    · subst e
      rw [e17b, hbb, upN_at]
      refine ⟨rfl, t6, by omega, ?_⟩
      rcases hcase with ⟨e1, -⟩ | ⟨e1, -⟩
      · obtain ⟨-, z2, z3⟩ := v1.2.2.2 q (by omega) hb200
        exact ⟨Or.inl z2, Or.inl z3⟩
      · exact (v2 q (by omega)).2.2.2
    · rw [e17 q e, hbo q e, upN_ne _ _ e]
      exact v2 q (hbn.2.2 q hq e)
  · intro q hq
    rw [e18]
    obtain ⟨x, x1, x2⟩ := v3 q hq
    by_cases e : q = 4 * b + g
    · rw [if_pos e, x1, nI_add]
      have := grade_le hb200 v3 (v1.2.2.1 b hb200).1 (v1.2.2.1 b hb200).2 hg (by rw [← e]; exact x1) x2
      exact ⟨x + c, rfl, by omega⟩
    · rw [if_neg e]
      exact ⟨x, x1, x2⟩
  · intro q p1 p2
    rw [hL1] at p1
    obtain ⟨z1, z2⟩ := v4 q (by omega) p2
    refine ⟨fun g' hg' => by rw [e18, if_neg (by omega)]; exact z1 g' hg', fun t' ht' => by rw [e19 _ (by omega)]; exact z2 t' ht'⟩
  · intro i hi
    have ho := v5 i hi
    rcases hcase with ⟨e1, e2, -, -, e3, e4, hno⟩ | ⟨e1, e2, -, -, e3, e4, hw⟩
    · rw [e4]
      by_cases ei : i = wd t
      · subst ei
        rw [show va_up lb (wd t) (some b) (wd t) = some b from if_pos rfl]
        refine ⟨by rw [hL1]; exact hbn.1, hbb, fun q p1 p2 p3 => ?_⟩
        rw [hL1] at p1
        rw [hfo q p2]
        rw [hbo q p2] at p3
        exact hno q (hbn.2.2 q p1 p2) p3
      · rw [show va_up lb (wd t) (some b) i = lb i from if_neg ei]
        cases hl : lb i with
        | none =>
          rw [hl] at ho
          intro q hq
          rw [hL1] at hq
          by_cases e : q = b
          · rw [e, hbb]; exact fun z => ei z.symm
          · rw [hbo q e]; exact ho q (hbn.2.2 q hq e)
        | some d =>
          rw [hl] at ho
          obtain ⟨o1, o2, o3⟩ := ho
          have hdb : d ≠ b := by omega
          refine ⟨by rw [hL1]; omega, by rw [hbo d hdb]; exact o2, fun q p1 p2 p3 => ?_⟩
          rw [hL1] at p1
          by_cases e : q = b
          · rw [e, hbb] at p3; exact absurd p3.symm ei
          · rw [hfo q e]
            rw [hbo q e] at p3
            exact o3 q (hbn.2.2 q p1 e) p2 p3
    · rw [e4]
      have hop : fullI F b = 0 := ((fstB_spec F (F 4 t) (L 1) 0).2.2.1 (by omega)).2 ▸ hb ▸ rfl
      cases hl : lb i with
      | none =>
        rw [hl] at ho
        intro q hq
        rw [e3]
        exact ho q (by rw [hL1] at hq; omega)
      | some d =>
        rw [hl] at ho
        obtain ⟨o1, o2, o3⟩ := ho
        refine ⟨by rw [hL1]; omega, by rw [e3]; exact o2, fun q p1 p2 p3 => ?_⟩
        rw [hL1] at p1
        rw [e3] at p3
        have hq1 := o3 q (by omega) p2 p3
        by_cases e : q = b
        · rw [e, hop] at hq1
          exact absurd hq1 (by decide)
        · rw [hfo q e]
          exact hq1
  · intro i hi
    obtain ⟨⟨tk, k1, k2⟩, k3, k4⟩ := v6 i hi
    rw [n 22 (by decide) (by decide) (by decide), n 23 (by decide) (by decide) (by decide), n 24 (by decide) (by decide) (by decide), hL1]
    refine ⟨⟨tk, k1, ?_⟩, k3, k4⟩
    by_cases ei : i = wd t
    · subst ei
      rw [n 4 (by decide) (by decide) (by decide), t4] at f6
      omega
    · have hct : ∀ q, q < L 1 → ctr F3 (va_up hs b (hs b + c)) (nI i) q = ctr F hs (nI i) q := fun q hq => by
        unfold ctr
        by_cases e : q = b
        · subst e
          rw [e17b, if_neg (fun z => ei ((nI_eq (by omega) (by omega)).mp z).symm)]
          rcases hcase with ⟨e1, -⟩ | ⟨e1, -, -, -, -, -, hw⟩
          · omega
          · rw [(v2 q hq).1, hw, if_neg (fun z => ei ((nI_eq (by omega) (by omega)).mp z).symm)]
        · rw [e17 q e, hfo q e, upN_ne _ _ e]
      have hor := orN_same (L 1) hct
      rcases hcase with ⟨e1, e2, -⟩ | ⟨e1, e2, -⟩
      · have h1 : orN F3 (va_up hs b (hs b + c)) (nI i) (L 1 + 1) = orN F3 (va_up hs b (hs b + c)) (nI i) (L 1) + ctr F3 (va_up hs b (hs b + c)) (nI i) (L 1) := rfl
        have h2 : ctr F3 (va_up hs b (hs b + c)) (nI i) (L 1) = 0 := by
          unfold ctr
          rw [← e1, e17b, if_neg (fun z => ei ((nI_eq (by omega) (by omega)).mp z).symm)]
        unfold capN at k2 ⊢
        rw [e2, h1, h2, hor]
        omega
      · unfold capN at k2 ⊢
        rw [e2, hor]
        exact k2
  · rw [capF_eq f5, capF_eq v1, ← t4]
    rw [n 4 (by decide) (by decide) (by decide)] at f6
    exact f6
end FI
