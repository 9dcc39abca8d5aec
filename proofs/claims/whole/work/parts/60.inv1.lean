/-! WHAT ALWAYS HOLDS is kept: let, still, pay, weather, cut -/
def own (ad : YA) (L : Nat → Nat) (y : Nat) : Prop := ∃ k i j, lvK L k i j ∧ y = ad k i j
def Nx (G : XG) (w u : XW) (a : Nat) (O : Nat → Prop) (I : Nat → Int32) (F : Nat → Nat → Int32) : Prop := ∃ O', CI G u a O' I F ∧ Fr w u O O'
theorem Nx.grow {G : XG} {w u : XW} {ad ad' : YA} {E' : YE} {cp' L L' wd' bw' : Nat → Nat} {lb' : Nat → Option Nat} {I' : Nat → Int32} {F' : Nat → Nat → Int32} {a now : Nat} (hR : Rep G u ad' E' cp' L' wd' bw' lb' I' F') (hV : Inv now L' wd' bw' lb' I' F') (ha : a = ad' 0 0 0) (hE : ∀ j, E' 9 4 0 j = 0) (hK : ∀ k i j, lvK L' k i j → (lvK L k i j ∧ ad' k i j = ad k i j) ∨ w (ad' k i j) = none) (hf : ∀ y, ¬ own ad L y → w y ≠ none → u y = w y) : Nx G w u a (own ad L) I' F' :=
  ⟨own ad' L', ⟨ad', E', cp', L', wd', bw', lb', now, ha, fun k i j hk => ⟨k, i, j, hk, rfl⟩, hR, hV, hE⟩, fun y hy => by
    obtain ⟨k, i, j, hk, rfl⟩ := hy
    rcases hK k i j hk with ⟨h1, h2⟩ | h1
    · exact Or.inl ⟨k, i, j, h1, h2⟩
    · exact Or.inr h1, hf⟩
theorem Nx.same {G : XG} {w u : XW} {ad : YA} {E' : YE} {cp L wd bw : Nat → Nat} {lb' : Nat → Option Nat} {I' : Nat → Int32} {F' : Nat → Nat → Int32} {a now : Nat} (hR : Rep G u ad E' cp L wd bw lb' I' F') (hV : Inv now L wd bw lb' I' F') (ha : a = ad 0 0 0) (hE : ∀ j, E' 9 4 0 j = 0) (hf : Kp w u ad L) : Nx G w u a (own ad L) I' F' :=
  Nx.grow hR hV ha hE (fun k i j hk => Or.inl ⟨hk, rfl⟩) (fun y hy _ => hf y (fun k i j hk e => hy ⟨k, i, j, hk, e⟩))
theorem fullI_c {F F' : Nat → Nat → Int32} (h18 : F' 18 = F 18) (h20 : F' 20 = F 20) (h21 : F' 21 = F 21) (b : Nat) : fullI F' b = fullI F b := fullI_eq (hasS_c h18 b) (congrFun h20 b) (congrFun h21 b)
theorem capN_c {F F' : Nat → Nat → Int32} (h17 : F' 17 = F 17) (h18 : F' 18 = F 18) (h20 : F' 20 = F 20) (h21 : F' 21 = F 21) (hs : Nat → Nat) (w : Int32) (n : Nat) : capN F' hs w n = capN F hs w n := by
  unfold capN
  rw [orN_same (F := F) (F' := F') (hs := hs) (hs' := hs) n (fun q _ => by unfold ctr; rw [h17, fullI_c h18 h20 h21])]
theorem BV_c {I I' : Nat → Int32} {F F' : Nat → Nat → Int32} {hs : Nat → Nat} {n : Nat} (h16 : I' 16 = I 16) (h18 : F' 18 = F 18) (h20 : F' 20 = F 20) (h21 : F' 21 = F 21) (h : BV I F hs n) : BV I' F' hs n := by
  obtain ⟨h1, h2, h3, h4⟩ := h
  exact ⟨by rw [h16, h1], h2, fun q hq => by rw [hasS_c h18]; exact h3 q hq, fun q a b => by rw [h20, h21]; exact h4 q a b⟩
theorem lbOk_c {L bw : Nat → Nat} {F F' : Nat → Nat → Int32} {i : Nat} {o : Option Nat} (hf : ∀ q, q < L 1 → fullI F q = 1 → fullI F' q = 1) (h : lbOk L bw F i o) : lbOk L bw F' i o := by
  cases o with
  | none => exact h
  | some b => exact ⟨h.1, h.2.1, fun q a c d => hf q a (h.2.2 q a c d)⟩
/-- the barrels' part, where the barrels stand as they were -/
theorem IvB_c {L L' bw : Nat → Nat} {lb : Nat → Option Nat} {I I' : Nat → Int32} {F F' : Nat → Nat → Int32} (hL : L' 1 = L 1) (h16 : I' 16 = I 16) (h17 : F' 17 = F 17) (h18 : F' 18 = F 18) (h19 : F' 19 = F 19) (h20 : F' 20 = F 20) (h21 : F' 21 = F 21) (h22 : F' 22 = F 22) (h23 : F' 23 = F 23) (h24 : F' 24 = F 24) (h : IvB L bw lb I F) : IvB L' bw lb I' F' := by
  obtain ⟨hs, h1, h2, h3, h4, h5, h6⟩ := h
  refine ⟨hs, by rw [hL]; exact BV_c h16 h18 h20 h21 h1, by rw [hL, h17, h20, h21]; exact h2, by rw [h18]; exact h3, by rw [hL, h18, h19]; exact h4, fun i hi => ?_, fun i hi => ?_⟩
  · have := h5 i hi
    cases hb : lb i with
    | none =>
      rw [hb] at this
      exact fun b q => this b (by rw [← hL]; exact q)
    | some b =>
      rw [hb] at this
      exact ⟨by rw [hL]; exact this.1, this.2.1, fun q a c d => by rw [fullI_c h18 h20 h21]; exact this.2.2 q (by rw [← hL]; exact a) c d⟩
  · rw [h22, h23, h24, hL, capN_c h17 h18 h20 h21]
    exact h6 i hi
theorem IvA_c {now : Nat} {L L' : Nat → Nat} {I I' : Nat → Int32} {F F' : Nat → Nat → Int32} (hL : L' 0 = L 0) (h0 : I' 0 = I 0) (h3 : I' 3 = I 3) (h1 : F' 1 = F 1) (h2 : F' 2 = F 2) (h : IvA now L I F) : IvA now L' I' F' := by
  unfold IvA
  rw [h0, h3, h1, h2, hL]
  exact h
section IV
variable {now : Nat} {L wd bw : Nat → Nat} {lb : Nat → Option Nat} {I : Nat → Int32} {F : Nat → Nat → Int32}
theorem inv_let (h : Inv now L wd bw lb I F) {i : Nat} (hi : i < 6) {q : Nat} (hq : q ≤ 100) : Inv now L wd bw lb I (setA (setA (setA (setA F 22 i 1) 23 i (nI q)) 24 i 0) 25 i 0) := by
  obtain ⟨hA, hT, hZ, hF, hs, h1, h2, h3, h4, h5, h6⟩ := h
  have n : ∀ k, k ≠ 22 → k ≠ 23 → k ≠ 24 → k ≠ 25 → setA (setA (setA (setA F 22 i 1) 23 i (nI q)) 24 i 0) 25 i 0 k = F k := fun k a b c d => by
    rw [setA_n _ _ _ d, setA_n _ _ _ c, setA_n _ _ _ b, setA_n _ _ _ a]
  have e17 := n 17 (by decide) (by decide) (by decide) (by decide)
  have e18 := n 18 (by decide) (by decide) (by decide) (by decide)
  have e19 := n 19 (by decide) (by decide) (by decide) (by decide)
  have e20 := n 20 (by decide) (by decide) (by decide) (by decide)
  have e21 := n 21 (by decide) (by decide) (by decide) (by decide)
  refine ⟨IvA_c rfl rfl rfl (n 1 (by decide) (by decide) (by decide) (by decide)) (n 2 (by decide) (by decide) (by decide) (by decide)) hA, ?_, ?_, ?_, hs, BV_c rfl e18 e20 e21 h1, by rw [e17, e20, e21]; exact h2, by rw [e18]; exact h3, by rw [e18, e19]; exact h4, fun j hj => lbOk_c (fun b hb z => by rw [fullI_c e18 e20 e21]; exact z) (h5 j hj), fun j hj => ?_⟩
  · unfold IvT
    rw [n 4 (by decide) (by decide) (by decide) (by decide), n 5 (by decide) (by decide) (by decide) (by decide), n 6 (by decide) (by decide) (by decide) (by decide), n 7 (by decide) (by decide) (by decide) (by decide), n 8 (by decide) (by decide) (by decide) (by decide), n 9 (by decide) (by decide) (by decide) (by decide)]
    exact hT
  · unfold IvZ
    rw [n 8 (by decide) (by decide) (by decide) (by decide), n 9 (by decide) (by decide) (by decide) (by decide), n 10 (by decide) (by decide) (by decide) (by decide), n 11 (by decide) (by decide) (by decide) (by decide), n 14 (by decide) (by decide) (by decide) (by decide), n 15 (by decide) (by decide) (by decide) (by decide)]
    exact hZ
  · unfold IvF
    rw [n 8 (by decide) (by decide) (by decide) (by decide), n 11 (by decide) (by decide) (by decide) (by decide), n 12 (by decide) (by decide) (by decide) (by decide), n 13 (by decide) (by decide) (by decide) (by decide), n 14 (by decide) (by decide) (by decide) (by decide)]
    exact hF
  · rw [capN_c e17 e18 e20 e21]
    by_cases e : j = i
    · subst e
      refine ⟨⟨0, by simp [setA_e, nI_0], ?_⟩, Or.inr (by simp [setA_e]), q, by simp [setA_e], hq⟩
      have := orN_le F hs (nI j) (L 1)
      have := h1.2.1
      unfold capN
      omega
    · simp only [setA_e, e, and_false, if_false]
      exact h6 j hj
theorem inv_still (h : Inv now L wd bw lb I F) {b : Nat} (hb : b < L 1) {x y : Int32} : Inv now L wd bw lb (va_up (va_up I 31 x) 32 y) (setA F 20 b 1) := by
  obtain ⟨hA, hT, hZ, hF, hs, h1, h2, h3, h4, h5, h6⟩ := h
  have n : ∀ k, k ≠ 20 → setA F 20 b 1 k = F k := fun k d => setA_n _ _ _ d
  have eI : ∀ k, k ≠ 31 → k ≠ 32 → va_up (va_up I 31 x) 32 y k = I k := fun k a c => by rw [up_n _ _ c, up_n _ _ a]
  have hfu : ∀ q, q ≠ b → fullI (setA F 20 b 1) q = fullI F q := fun q hq => fullI_eq (hasS_c (n 18 (by decide)) q) (by simp [setA_e, hq]) (by rw [n 21 (by decide)])
  have hfb : fullI (setA F 20 b 1) b = 1 := by
    unfold fullI
    rw [show setA F 20 b 1 20 b = 1 by simp [setA_e]]
    split <;> simp
  refine ⟨IvA_c rfl (eI 0 (by decide) (by decide)) (eI 3 (by decide) (by decide)) (n 1 (by decide)) (n 2 (by decide)) hA, ?_, ?_, ?_, hs, ?_, ?_, by rw [n 18 (by decide)]; exact h3, by rw [n 18 (by decide), n 19 (by decide)]; exact h4, fun j hj => lbOk_c (fun q hq z => if e : q = b then (by rw [e]; exact hfb) else (by rw [hfu q e]; exact z)) (h5 j hj), fun j hj => ?_⟩
  · unfold IvT
    rw [n 4 (by decide), n 5 (by decide), n 6 (by decide), n 7 (by decide), n 8 (by decide), n 9 (by decide)]
    exact hT
  · unfold IvZ
    rw [n 8 (by decide), n 9 (by decide), n 10 (by decide), n 11 (by decide), n 14 (by decide), n 15 (by decide)]
    exact hZ
  · unfold IvF
    rw [n 8 (by decide), n 11 (by decide), n 12 (by decide), n 13 (by decide), n 14 (by decide)]
    exact hF
  · obtain ⟨a1, a2, a3, a4⟩ := h1
    refine ⟨by rw [eI 16 (by decide) (by decide)]; exact a1, a2, fun q hq => by rw [hasS_c (n 18 (by decide))]; exact a3 q hq, fun q z1 z2 => ?_⟩
    rw [n 21 (by decide), show setA F 20 b 1 20 q = F 20 q by simp [setA_e, show ¬ q = b by omega]]
    exact a4 q z1 z2
  · intro q hq
    obtain ⟨a1, a2, a3, a4, a5⟩ := h2 q hq
    rw [n 17 (by decide), n 21 (by decide)]
    refine ⟨a1, a2, a3, ?_, a5⟩
    by_cases e : q = b
    · exact Or.inr (by simp [setA_e, e])
    · rw [show setA F 20 b 1 20 q = F 20 q by simp [setA_e, e]]
      exact a4
  · obtain ⟨⟨tk, t1, t2⟩, r1, r2⟩ := h6 j hj
    rw [n 22 (by decide), n 23 (by decide), n 24 (by decide)]
    refine ⟨⟨tk, t1, ?_⟩, r1, r2⟩
    have hle : orN (setA F 20 b 1) hs (nI j) (L 1) ≤ orN F hs (nI j) (L 1) := by
      have := orN_less (F := F) (F' := setA F 20 b 1) (hs := hs) (hs' := hs) (w := nI j) (b := b) (c := ctr F hs (nI j) b) (by
        have : ctr (setA F 20 b 1) hs (nI j) b = 0 := by
          unfold ctr
          rw [hfb]
          split <;> rfl
        omega) (L 1) hb (fun q hq hne => by unfold ctr; rw [n 17 (by decide), hfu q hne])
      omega
    unfold capN at t2 ⊢
    omega
theorem inv_pay (h : Inv now L wd bw lb I F) {b : Nat} (hb : b < L 1) {c : Nat} {x : Int32} : Inv now L wd bw lb I (setA (setA F 21 b 1) 25 c x) := by
  obtain ⟨hA, hT, hZ, hF, hs, h1, h2, h3, h4, h5, h6⟩ := h
  have n : ∀ k, k ≠ 21 → k ≠ 25 → setA (setA F 21 b 1) 25 c x k = F k := fun k d e => by rw [setA_n _ _ _ e, setA_n _ _ _ d]
  have e21 : ∀ q, setA (setA F 21 b 1) 25 c x 21 q = if q = b then 1 else F 21 q := fun q => by simp [setA_e]
  have hfu : ∀ q, q ≠ b → fullI (setA (setA F 21 b 1) 25 c x) q = fullI F q := fun q hq => fullI_eq (hasS_c (n 18 (by decide) (by decide)) q) (by rw [n 20 (by decide) (by decide)]) (by rw [e21, if_neg hq])
  have hfb : fullI (setA (setA F 21 b 1) 25 c x) b = 1 := by
    unfold fullI
    rw [e21, if_pos rfl]
    split
    · rfl
    · split <;> simp
  refine ⟨IvA_c rfl rfl rfl (n 1 (by decide) (by decide)) (n 2 (by decide) (by decide)) hA, ?_, ?_, ?_, hs, ?_, ?_, by rw [n 18 (by decide) (by decide)]; exact h3, by rw [n 18 (by decide) (by decide), n 19 (by decide) (by decide)]; exact h4, fun j hj => lbOk_c (fun q hq z => if e : q = b then (by rw [e]; exact hfb) else (by rw [hfu q e]; exact z)) (h5 j hj), fun j hj => ?_⟩
  · unfold IvT
    rw [n 4 (by decide) (by decide), n 5 (by decide) (by decide), n 6 (by decide) (by decide), n 7 (by decide) (by decide), n 8 (by decide) (by decide), n 9 (by decide) (by decide)]
    exact hT
  · unfold IvZ
    rw [n 8 (by decide) (by decide), n 9 (by decide) (by decide), n 10 (by decide) (by decide), n 11 (by decide) (by decide), n 14 (by decide) (by decide), n 15 (by decide) (by decide)]
    exact hZ
  · unfold IvF
    rw [n 8 (by decide) (by decide), n 11 (by decide) (by decide), n 12 (by decide) (by decide), n 13 (by decide) (by decide), n 14 (by decide) (by decide)]
    exact hF
  · obtain ⟨a1, a2, a3, a4⟩ := h1
    refine ⟨a1, a2, fun q hq => by rw [hasS_c (n 18 (by decide) (by decide))]; exact a3 q hq, fun q z1 z2 => ?_⟩
    rw [n 20 (by decide) (by decide), e21, if_neg (by omega)]
    exact a4 q z1 z2
  · intro q hq
    obtain ⟨a1, a2, a3, a4, a5⟩ := h2 q hq
    rw [n 17 (by decide) (by decide), n 20 (by decide) (by decide), e21]
    refine ⟨a1, a2, a3, a4, ?_⟩
    by_cases e : q = b
    · rw [if_pos e]; exact Or.inr rfl
    · rw [if_neg e]; exact a5
  · obtain ⟨⟨tk, t1, t2⟩, r1, r2⟩ := h6 j hj
    rw [n 22 (by decide) (by decide), n 23 (by decide) (by decide), n 24 (by decide) (by decide)]
    refine ⟨⟨tk, t1, ?_⟩, r1, r2⟩
    have hle : orN (setA (setA F 21 b 1) 25 c x) hs (nI j) (L 1) ≤ orN F hs (nI j) (L 1) := by
      have := orN_less (F := F) (F' := setA (setA F 21 b 1) 25 c x) (hs := hs) (hs' := hs) (w := nI j) (b := b) (c := ctr F hs (nI j) b) (by
        have : ctr (setA (setA F 21 b 1) 25 c x) hs (nI j) b = 0 := by
          unfold ctr
          rw [hfb]
          split <;> rfl
        omega) (L 1) hb (fun q hq hne => by unfold ctr; rw [n 17 (by decide) (by decide), hfu q hne])
      omega
    unfold capN at t2 ⊢
    omega
theorem inv_weather (h : Inv now L wd bw lb I F) {a d vx vy : Nat} (hx : vx ≤ 9) (hy : vy ≤ 9) : Inv now L wd bw lb I (wfill F a d (nI vx) (nI vy)) := by
  obtain ⟨hA, hT, hZ, hF, hB⟩ := h
  have n : ∀ k, k ≠ 1 → k ≠ 2 → wfill F a d (nI vx) (nI vy) k = F k := fun k d e => wfill_ne F _ _ _ _ d e
  refine ⟨?_, ?_, ?_, ?_, IvB_c rfl rfl (n 17 (by decide) (by decide)) (n 18 (by decide) (by decide)) (n 19 (by decide) (by decide)) (n 20 (by decide) (by decide)) (n 21 (by decide) (by decide)) (n 22 (by decide) (by decide)) (n 23 (by decide) (by decide)) (n 24 (by decide) (by decide)) hB⟩
  · obtain ⟨a1, a2, a3, a4, a5⟩ := hA
    refine ⟨a1, a2, a3, a4, fun j hj => ?_⟩
    by_cases z : a ≤ j ∧ j < d
    · exact ⟨vx, vy, by simp [wfill, z], hx, by simp [wfill, z], hy⟩
    · obtain ⟨x, y, b⟩ := a5 j hj
      refine ⟨x, y, ?_⟩
      simp only [wfill, z, and_false, if_false]
      exact b
  · unfold IvT
    rw [n 4 (by decide) (by decide), n 5 (by decide) (by decide), n 6 (by decide) (by decide), n 7 (by decide) (by decide), n 8 (by decide) (by decide), n 9 (by decide) (by decide)]
    exact hT
  · unfold IvZ
    rw [n 8 (by decide) (by decide), n 9 (by decide) (by decide), n 10 (by decide) (by decide), n 11 (by decide) (by decide), n 14 (by decide) (by decide), n 15 (by decide) (by decide)]
    exact hZ
  · unfold IvF
    rw [n 8 (by decide) (by decide), n 11 (by decide) (by decide), n 12 (by decide) (by decide), n 13 (by decide) (by decide), n 14 (by decide) (by decide)]
    exact hF
end IV
