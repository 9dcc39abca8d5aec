/-! a tree burns -/
theorem ls_4 (f : Nat → Int32) : ∀ n, l_sum f (4 * n) = l_sum (fun t => l_sum (fun j => f (4 * t + j)) 4) n
  | 0 => rfl
  | n + 1 => by
    show l_sum f (4 * n + 3 + 1) = l_sum (fun t => l_sum (fun j => f (4 * t + j)) 4) n + l_sum (fun j => f (4 * n + j)) 4
    rw [← ls_4 f n]
    show (((l_sum f (4 * n) + f (4 * n)) + f (4 * n + 1)) + f (4 * n + 2)) + f (4 * n + 3) = l_sum f (4 * n) + ((((0 + f (4 * n + 0)) + f (4 * n + 1)) + f (4 * n + 2)) + f (4 * n + 3))
    simp [Int32.add_assoc]
theorem cups_tree {F : Nat → Nat → Int32} {L wd : Nat → Nat} {t : Nat} (h60 : L 0 ≤ 60) (hT : IvT L wd F) (hZ : IvZ L F) (ht : t < L 0) : l_sum (fun j => cupS F (3 * t + j)) (L (2 + t)) = l_sum (fun q => F 14 (12 * t + q)) 12 := by
  have h3 : L (2 + t) ≤ 3 := (hT t ht).2.2.2.2.2.2.2
  rw [show l_sum (fun q => F 14 (12 * t + q)) 12 = l_sum (fun q => F 14 (12 * t + q)) (4 * 3) from rfl, ls_4]
  rw [← ls_tail (f := fun j => cupS F (3 * t + j)) 3 h3 (fun j h1 h2 => cupS_0 (hZ.2 t j (by omega) h2 (Or.inr h1)).2.2)]
  refine ls_cg 3 (fun j hj => ?_)
  unfold cupS
  refine ls_cg 4 (fun g hg => ?_)
  rw [show 4 * (3 * t + j) + g = 12 * t + (4 * j + g) by omega]
theorem zeroC_ne (F : Nat → Nat → Int32) (a b : Nat) {k : Nat} (h : k ≠ 14) : zeroC F a b k = F k := by
  funext j
  unfold zeroC
  rw [if_neg (fun z => h z.1)]
theorem zeroC_in (F : Nat → Nat → Int32) {a b j : Nat} (h1 : a ≤ j) (h2 : j < b) : zeroC F a b 14 j = 0 := if_pos ⟨rfl, h1, h2⟩
theorem zeroC_out (F : Nat → Nat → Int32) {a b j : Nat} (h : ¬ (a ≤ j ∧ j < b)) : zeroC F a b 14 j = F 14 j := if_neg (fun z => h z.2)
theorem rep_burn {G : XG} {w u : XW} {ad : YA} {E : YE} {cp L wd bw : Nat → Nat} {lb : Nat → Option Nat} {I : Nat → Int32} {F : Nat → Nat → Int32} (hR : Rep G w ad E cp L wd bw lb I F) (h60 : L 0 ≤ 60) (h3 : ∀ t, t < L 0 → L (2 + t) ≤ 3) {t : Nat} (ht : t < L 0) {x : Int32}
    (hu0 : u (ad 0 0 0) = some (.inr (7, [.ref (ad 1 0 0), .ref (ad 2 0 0), .ref (ad 3 0 0), .ref (ad 5 0 0), .ref (ad 5 1 0), .ref (ad 7 0 0), .ref (ad 8 0 0), .int (I 0), .int (I 30), .int x, .int (I 31), .int (I 32)])))
    (hu1 : u (ad 12 t 0) = some (.inr (5, [.int (nI t), .ref (ad 4 (wd t) 0), .int (F 5 t * 100 + F 6 t), .int (bearI (F 7 t)), .ref (ad 5 (2 + t) 0), .int 1, .int (F 10 t)])))
    (hu2 : ∀ j, j < L (2 + t) → u (ad 13 t j) = some (.inr (2, [.int (F 11 (3 * t + j)), .int (F 12 (3 * t + j)), .int (F 13 (3 * t + j)), .int 0, .int (F 15 (3 * t + j)), .ref (ad 14 t j)])))
    (hu3 : ∀ j, j < L (2 + t) → u (ad 14 t j) = some (.inl (G.2 0, 4, .inl (zrf (gr4 F (3 * t + j)) 4))))
    (hfr : ∀ y, y ≠ ad 0 0 0 → y ≠ ad 12 t 0 → (∀ j, j < L (2 + t) → y ≠ ad 13 t j ∧ y ≠ ad 14 t j) → u y = w y) :
    Rep G u ad E cp L wd bw lb (va_up I 29 x) (zeroC (setA F 8 t 1) (12 * t) (12 * t + 12)) := by
  have n : ∀ k, k ≠ 8 → k ≠ 14 → zeroC (setA F 8 t 1) (12 * t) (12 * t + 12) k = F k := fun k a b => by rw [zeroC_ne _ _ _ b, setA_n _ _ _ a]
  have e8 : ∀ q, zeroC (setA F 8 t 1) (12 * t) (12 * t + 12) 8 q = if q = t then 1 else F 8 q := fun q => by rw [zeroC_ne _ _ _ (by decide), setA_e]; simp
  have eo : ∀ q, ¬ (12 * t ≤ q ∧ q < 12 * t + 12) → zeroC (setA F 8 t 1) (12 * t) (12 * t + 12) 14 q = F 14 q := fun q hq => by rw [zeroC_out _ hq, setA_n _ _ _ (by decide)]
  obtain ⟨F', hF'⟩ : ∃ z, z = zeroC (setA F 8 t 1) (12 * t) (12 * t + 12) := ⟨_, rfl⟩
  have ei : ∀ q, 12 * t ≤ q → q < 12 * t + 12 → F' 14 q = 0 := fun q a b => by rw [hF']; exact zeroC_in _ a b
  simp only [← hF'] at n e8 eo ⊢
  have h18 := n 18 (by decide) (by decide)
  have h19 := n 19 (by decide) (by decide)
  refine hR.step (fun k i j => k = 0 ∨ (k = 12 ∧ i = t) ∨ ((k = 13 ∨ k = 14) ∧ i = t)) ?_ ?_
  · rintro k i j hk (rfl | ⟨rfl, rfl⟩ | ⟨rfl | rfl, rfl⟩)
    · obtain ⟨rfl, rfl⟩ := hk
      rw [hu0]
      simp [cst, va_up]
    · have hj : j = 0 := hk.2
      subst hj
      rw [hu1]
      simp [cst, n, e8]
    · have hj : j < L (2 + i) := ((show (i < L 0 ∧ j < L (2 + i)) ∨ (i = 60 ∧ j = 0) from hk).resolve_right (fun z => by omega)).2
      have := h3 i ht
      have hc : cupS F' (3 * i + j) = 0 := cupS_0 (fun g hg => ei _ (by omega) (by omega))
      rw [hu2 j hj]
      simp [cst, n, show ¬ i = 60 by omega, hc]
    · have hj : j < L (2 + i) := ((show (i < L 0 ∧ j < L (2 + i)) ∨ (i = 60 ∧ j = 0) from hk).resolve_right (fun z => by omega)).2
      have := h3 i ht
      rw [hu3 j hj]
      simp only [cst, show ¬ i = 60 by omega, if_false]
      refine congrArg (fun z => some (Sum.inl (G.2 0, 4, Sum.inl z))) (funext fun g => ?_)
      unfold zrf gr4
      by_cases hg : g < 4
      · rw [if_pos hg, if_pos hg, ei _ (by omega) (by omega)]
      · rw [if_neg hg, if_neg hg, if_neg hg]
  · intro k i j hk hx
    have b0 : k ≠ 0 := fun z => hx (Or.inl z)
    have b1 : ¬ (k = 12 ∧ i = t) := fun z => hx (Or.inr (Or.inl z))
    have b2 : ¬ ((k = 13 ∨ k = 14) ∧ i = t) := fun z => hx (Or.inr (Or.inr z))
    refine ⟨hfr _ (hR.ne hk (⟨rfl, rfl⟩ : lvK L 0 0 0) (fun z => b0 z.1)) (hR.ne hk (⟨ht, rfl⟩ : lvK L 12 t 0) (fun z => b1 ⟨z.1, z.2.1⟩)) (fun q hq => ⟨hR.ne hk (Or.inl ⟨ht, hq⟩ : lvK L 13 t q) (fun z => b2 ⟨Or.inl z.1, z.2.1⟩), hR.ne hk (Or.inl ⟨ht, hq⟩ : lvK L 14 t q) (fun z => b2 ⟨Or.inr z.1, z.2.1⟩)⟩), ?_⟩
    unfold agr
    split
    case h_13 => simp [n, e8, show ¬ i = t from fun z => b1 ⟨rfl, z⟩]
    case h_14 =>
      by_cases q : i = 60
      · rw [if_pos q]
      · rw [if_neg q]
        have hlt := (show (i < L 0 ∧ j < L (2 + i)) ∨ (i = 60 ∧ j = 0) from hk).resolve_right (fun z => q z.1)
        have := h3 i hlt.1
        have hit : i ≠ t := fun z => b2 ⟨Or.inl rfl, z⟩
        refine ⟨by rw [n 11 (by decide) (by decide)], by rw [n 12 (by decide) (by decide)], by rw [n 13 (by decide) (by decide)], by rw [n 15 (by decide) (by decide)], ?_⟩
        unfold cupS
        refine ls_cg 4 (fun g hg => eo _ (by omega))
    case h_15 =>
      by_cases q : i = 60
      · rw [if_pos q]
      · rw [if_neg q]
        have hlt := (show (i < L 0 ∧ j < L (2 + i)) ∨ (i = 60 ∧ j = 0) from hk).resolve_right (fun z => q z.1)
        have := h3 i hlt.1
        have hit : i ≠ t := fun z => b2 ⟨Or.inr rfl, z⟩
        funext g
        unfold gr4
        by_cases hg : g < 4
        · rw [if_pos hg, if_pos hg, eo _ (by omega)]
        · rw [if_neg hg, if_neg hg]
    all_goals simp_all [hasS_c, bg4_c, bt60_c, va_up]
theorem c4_eq (cg : Nat → Nat) (f : Nat) : c4 cg f = cg (4 * f) + cg (4 * f + 1) + cg (4 * f + 2) + cg (4 * f + 3) := by
  unfold c4
  simp [nsum]
section IU
variable {now : Nat} {L wd bw : Nat → Nat} {lb : Nat → Option Nat} {I : Nat → Int32} {F : Nat → Nat → Int32}
theorem inv_nolet (h : Inv now L wd bw lb I F) (i : Nat) : Inv now L wd bw lb I (setA F 22 i 0) := by
  obtain ⟨hA, hT, hZ, hF, hs, h1, h2, h3, h4, h5, h6⟩ := h
  have n : ∀ k, k ≠ 22 → setA F 22 i 0 k = F k := fun k d => setA_n _ _ _ d
  have e18 := n 18 (by decide)
  have e17 := n 17 (by decide)
  have e20 := n 20 (by decide)
  have e21 := n 21 (by decide)
  refine ⟨IvA_c rfl rfl rfl (n 1 (by decide)) (n 2 (by decide)) hA, ?_, ?_, ?_, hs, BV_c rfl e18 e20 e21 h1, by rw [e17, e20, e21]; exact h2, by rw [e18]; exact h3, by rw [e18, n 19 (by decide)]; exact h4, fun j hj => lbOk_c (fun b hb z => by rw [fullI_c e18 e20 e21]; exact z) (h5 j hj), fun j hj => ?_⟩
  · unfold IvT
    rw [n 4 (by decide), n 5 (by decide), n 6 (by decide), n 7 (by decide), n 8 (by decide), n 9 (by decide)]
    exact hT
  · unfold IvZ
    rw [n 8 (by decide), n 9 (by decide), n 10 (by decide), n 11 (by decide), n 14 (by decide), n 15 (by decide)]
    exact hZ
  · unfold IvF
    rw [n 8 (by decide), n 11 (by decide), n 12 (by decide), n 13 (by decide), n 14 (by decide)]
    exact hF
  · rw [capN_c e17 e18 e20 e21, n 23 (by decide), n 24 (by decide)]
    obtain ⟨a1, a2, a3⟩ := h6 j hj
    refine ⟨a1, ?_, a3⟩
    by_cases e : j = i
    · exact Or.inl (by simp [setA_e, e])
    · rw [show setA F 22 i 0 22 j = F 22 j by simp [setA_e, e]]
      exact a2
theorem inv_burn (h : Inv now L wd bw lb I F) {t : Nat} (ht : t < L 0) {x : Int32} : Inv now L wd bw lb (va_up I 29 x) (zeroC (setA F 8 t 1) (12 * t) (12 * t + 12)) := by
  obtain ⟨hA, hT, hZ, hF, hB⟩ := h
  have h60 : L 0 ≤ 60 := hA.2.2.2.1
  have n : ∀ k, k ≠ 8 → k ≠ 14 → zeroC (setA F 8 t 1) (12 * t) (12 * t + 12) k = F k := fun k a b => by rw [zeroC_ne _ _ _ b, setA_n _ _ _ a]
  have e8 : ∀ q, zeroC (setA F 8 t 1) (12 * t) (12 * t + 12) 8 q = if q = t then 1 else F 8 q := fun q => by rw [zeroC_ne _ _ _ (by decide), setA_e]; simp
  have eo : ∀ q, zeroC (setA F 8 t 1) (12 * t) (12 * t + 12) 14 q = if 12 * t ≤ q ∧ q < 12 * t + 12 then 0 else F 14 q := fun q => by
    by_cases hq : 12 * t ≤ q ∧ q < 12 * t + 12
    · rw [if_pos hq, zeroC_in _ hq.1 hq.2]
    · rw [if_neg hq, zeroC_out _ hq, setA_n _ _ _ (by decide)]
  obtain ⟨F', hF'⟩ : ∃ z, z = zeroC (setA F 8 t 1) (12 * t) (12 * t + 12) := ⟨_, rfl⟩
  simp only [← hF'] at n e8 eo ⊢
  have eI : ∀ k, k ≠ 29 → va_up I 29 x k = I k := fun k hk => up_n _ _ hk
  refine ⟨IvA_c rfl (eI 0 (by decide)) (eI 3 (by decide)) (n 1 (by decide) (by decide)) (n 2 (by decide) (by decide)) hA, ?_, ?_, ?_, IvB_c rfl (eI 16 (by decide)) (n 17 (by decide) (by decide)) (n 18 (by decide) (by decide)) (n 19 (by decide) (by decide)) (n 20 (by decide) (by decide)) (n 21 (by decide) (by decide)) (n 22 (by decide) (by decide)) (n 23 (by decide) (by decide)) (n 24 (by decide) (by decide)) hB⟩
  · intro q hq
    obtain ⟨a1, a2, a3, a4, a5, a6⟩ := hT q hq
    rw [n 4 (by decide) (by decide), n 5 (by decide) (by decide), n 6 (by decide) (by decide), n 7 (by decide) (by decide), n 9 (by decide) (by decide), e8]
    refine ⟨a1, a2, a3, a4, ?_, a6⟩
    by_cases e : q = t
    · rw [if_pos e]; exact Or.inr rfl
    · rw [if_neg e]; exact a5
  · refine ⟨fun q a b => ?_, fun q i a b c => ?_⟩
    · rw [e8, if_neg (by omega), n 9 (by decide) (by decide), n 10 (by decide) (by decide)]
      exact hZ.1 q a b
    · rw [n 11 (by decide) (by decide), n 15 (by decide) (by decide)]
      obtain ⟨z1, z2, z3⟩ := hZ.2 q i a b c
      refine ⟨z1, z2, fun g hg => ?_⟩
      rw [eo, z3 g hg]
      split <;> rfl
  · obtain ⟨⟨cg, g0, g1⟩, g2, g3⟩ := hF
    refine ⟨⟨fun q => if 12 * t ≤ q ∧ q < 12 * t + 12 then 0 else cg q, fun j hj => ?_, fun f hf => ?_⟩, by rw [n 11 (by decide) (by decide), n 12 (by decide) (by decide), n 13 (by decide) (by decide)]; exact g2, fun q hq h8 p hp => ?_⟩
    · rw [eo, g0 j hj]
      by_cases hq : 12 * t ≤ j ∧ j < 12 * t + 12
      · simp only [if_pos hq]
        rfl
      · simp only [if_neg hq]
    · refine Nat.le_trans ?_ (g1 f hf)
      rw [c4_eq, c4_eq]
      have hm : ∀ y, (if 12 * t ≤ y ∧ y < 12 * t + 12 then 0 else cg y) ≤ cg y := fun y => by split <;> omega
      have m0 := hm (4 * f)
      have m1 := hm (4 * f + 1)
      have m2 := hm (4 * f + 2)
      have m3 := hm (4 * f + 3)
      omega
    · rw [e8] at h8
      rw [eo]
      by_cases e : q = t
      · rw [if_pos (by omega)]
      · rw [if_neg e] at h8
        rw [g3 q hq h8 p hp]
        split <;> rfl
end IU
theorem bT_22 (I : Nat → Int32) (F : Nat → Nat → Int32) (t i : Nat) : setA (bT I F t).2 22 i 0 = zeroC (setA (setA F 22 i 0) 8 t 1) (12 * t) (12 * t + 12) := by
  funext k j
  unfold bT
  simp only [setA_e, zeroC]
  by_cases h : k = 22 <;> by_cases h2 : k = 14 <;> by_cases h3 : k = 8 <;> simp_all
