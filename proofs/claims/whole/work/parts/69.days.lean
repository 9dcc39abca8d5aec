/-! THE DAY, face by face, is the model's day: first all faces run, then all are washed -/
def dT (now : Nat) (u : MS) (t : Nat) : Nat → MS
  | 0 => u
  | i + 1 => fdy now (dT now u t i) (3 * t + i)
def dA (now : Nat) (L : Nat → Nat) (F0 : Nat → Nat → Int32) (u : MS) : Nat → MS
  | 0 => u
  | t + 1 => if F0 8 t = 0 then dT now (dA now L F0 u t) t (L (2 + t)) else dA now L F0 u t
theorem cupS_w (F : Nat → Nat → Int32) {f1 f2 : Nat} (R : Int32) (h : f1 ≠ f2) : cupS (washF F f1 4 R) f2 = cupS F f2 := by
  unfold cupS
  refine ls_cg 4 (fun g hg => ?_)
  unfold washF
  rw [if_neg (fun z => by omega)]
/-- running at one face and rain at another don't touch -/
theorem rw_comm (now : Nat) (I : Nat → Int32) (F : Nat → Nat → Int32) {f1 f2 gr : Nat} (h : f1 ≠ f2) (hg : ix (gradI F f2 (nI now)) = gr) (hg4 : gr < 4) :
    sRuns (sWash I F now f1).1 (sWash I F now f1).2 now f2 = sWash (sRuns I F now f2).1 (sRuns I F now f2).2 now f1 := by
  have e1 : (sWash I F now f1).2 1 = F 1 := sWash_F _ _ _ _ (by decide)
  have e2 : (sWash I F now f1).2 12 = F 12 := sWash_F _ _ _ _ (by decide)
  have e3 : (sWash I F now f1).2 13 = F 13 := sWash_F _ _ _ _ (by decide)
  have e15 : (sWash I F now f1).2 15 = F 15 := sWash_F _ _ _ _ (by decide)
  have eN : rnN (sWash I F now f1).2 now f2 = rnN F now f2 := by unfold rnN; rw [e1, e2]
  have eC : rnC (sWash I F now f1).2 now f2 = rnC F now f2 := by
    unfold rnC
    rw [eN]
    show minI _ (400 - cupS (washF F f1 4 (F 2 now)) f2) = _
    rw [cupS_w F _ h]
  have eg : gradI (sWash I F now f1).2 f2 (nI now) = gradI F f2 (nI now) := by unfold gradI; rw [e3]
  have hw14 : ∀ q, ¬ (4 * f1 ≤ q ∧ q < 4 * f1 + 4) → (sWash I F now f1).2 14 q = F 14 q := fun q hq => if_neg (fun z => hq z.2)
  have hr14 : ∀ q, ¬ (4 * f2 ≤ q ∧ q < 4 * f2 + 4) → (sRuns I F now f2).2 14 q = F 14 q := fun q hq => run14o I F now f2 gr hg hg4 q hq
  have er2 : (sRuns I F now f2).2 2 = F 2 := sRuns_F _ _ _ _ (by decide) (by decide)
  rw [sRuns_eq, eN, eC, eg, hg, e15, hw14 _ (by omega)]
  have hs : l_sum (fun g => (sRuns I F now f2).2 14 (4 * f1 + g) * (sRuns I F now f2).2 2 now / 100) 4 = l_sum (fun g => F 14 (4 * f1 + g) * F 2 now / 100) 4 := ls_cg 4 (fun g hg => by rw [er2, hr14 _ (by omega)])
  refine Prod.ext ?_ ?_
  · show _ = va_up (sRuns I F now f2).1 28 ((sRuns I F now f2).1 28 + l_sum (fun g => (sRuns I F now f2).2 14 (4 * f1 + g) * (sRuns I F now f2).2 2 now / 100) 4)
    rw [hs, sRuns_I _ _ _ _ (by decide) (by decide), sRuns_eq]
    simp only [sWash]
    funext k
    simp only [va_up]
    by_cases k1 : k = 26
    · subst k1; simp
    · by_cases k2 : k = 27
      · subst k2; simp
      · by_cases k3 : k = 28
        · subst k3; simp
        · simp [k1, k2, k3]
  · show _ = washF (sRuns I F now f2).2 f1 4 ((sRuns I F now f2).2 2 now)
    rw [er2]
    funext k j
    rw [sRuns_eq, hg]
    simp only [sWash, setA_e, washF]
    by_cases k1 : k = 14
    · subst k1
      by_cases j1 : 4 * f1 ≤ j ∧ j < 4 * f1 + 4
      · simp [j1, show ¬ j = 4 * f2 + gr by omega]
      · simp [j1]
    · simp [k1]
/-- what the day's steps need of the state, kept by all of them: the years of opening -/
def dOk (now : Nat) (F : Nat → Nat → Int32) (f : Nat) : Prop := ∃ gr, gr < 4 ∧ ix (gradI F f (nI now)) = gr
theorem dOk_c {now : Nat} {F F' : Nat → Nat → Int32} {f : Nat} (h : F' 13 = F 13) (k : dOk now F f) : dOk now F' f := by
  obtain ⟨gr, k1, k2⟩ := k
  exact ⟨gr, k1, by rw [show gradI F' f (nI now) = gradI F f (nI now) by unfold gradI; rw [h]]; exact k2⟩
theorem wshT_F (now : Nat) (I : Nat → Int32) (F : Nat → Nat → Int32) (t : Nat) {k : Nat} (h : k ≠ 14) : ∀ i, (wshT now I F t i).2 k = F k
  | 0 => rfl
  | i + 1 => (sWash_F _ _ _ _ h).trans (wshT_F now I F t h i)
theorem runT_F (now : Nat) (I : Nat → Int32) (F : Nat → Nat → Int32) (t : Nat) {k : Nat} (h : k ≠ 14) (h2 : k ≠ 15) : ∀ i, (runT now I F t i).2 k = F k
  | 0 => rfl
  | i + 1 => (sRuns_F _ _ _ _ h h2).trans (runT_F now I F t h h2 i)
theorem wshA_F (now : Nat) (I : Nat → Int32) (F : Nat → Nat → Int32) {k : Nat} (h : k ≠ 14) : ∀ t, (wshA now I F t).2 k = F k
  | 0 => rfl
  | t + 1 => (wshT_F _ _ _ _ h _).trans (wshA_F now I F h t)
theorem runA_F (now : Nat) (I : Nat → Int32) (F : Nat → Nat → Int32) {k : Nat} (h : k ≠ 14) (h2 : k ≠ 15) : ∀ t, (runA now I F t).2 k = F k
  | 0 => rfl
  | t + 1 => by
    show (if _ then _ else _ : MS).2 k = _
    split
    · exact (runT_F _ _ _ _ h h2 _).trans (runA_F now I F h h2 t)
    · exact runA_F now I F h h2 t
/-- a face's running behind the rain at faces of one tree that lie ahead of it -/
theorem run_wshT (now : Nat) (I : Nat → Int32) (F : Nat → Nat → Int32) (t f : Nat) (hk : dOk now F f) : ∀ i, (∀ j, j < i → 3 * t + j ≠ f) → sRuns (wshT now I F t i).1 (wshT now I F t i).2 now f = wshT now (sRuns I F now f).1 (sRuns I F now f).2 t i
  | 0, _ => rfl
  | i + 1, h => by
    obtain ⟨gr, k1, k2⟩ := dOk_c (F' := (wshT now I F t i).2) (wshT_F now I F t (by decide) i) hk
    show sRuns (sWash (wshT now I F t i).1 (wshT now I F t i).2 now (3 * t + i)).1 (sWash (wshT now I F t i).1 (wshT now I F t i).2 now (3 * t + i)).2 now f = _
    rw [rw_comm now _ _ (h i (by omega)) k2 k1, run_wshT now I F t f hk i (fun j hj => h j (by omega))]
    rfl
theorem run_wshA (now : Nat) (f : Nat) : ∀ (T : Nat) (I : Nat → Int32) (F : Nat → Nat → Int32), dOk now F f → (∀ t j, t < T → j < ix (F 9 t) → 3 * t + j ≠ f) → sRuns (wshA now I F T).1 (wshA now I F T).2 now f = wshA now (sRuns I F now f).1 (sRuns I F now f).2 T
  | 0, _, _, _, _ => rfl
  | T + 1, I, F, hk, h => by
    have e9 : (wshA now I F T).2 9 = F 9 := wshA_F now I F (by decide) T
    show sRuns (wshT now (wshA now I F T).1 (wshA now I F T).2 T (ix ((wshA now I F T).2 9 T))).1 (wshT now (wshA now I F T).1 (wshA now I F T).2 T (ix ((wshA now I F T).2 9 T))).2 now f = _
    rw [run_wshT now _ _ T f (dOk_c (wshA_F now I F (by decide) T) hk) _ (fun j hj => h T j (by omega) (by rw [e9] at hj; exact hj)), run_wshA now f T I F hk (fun t j ht hj => h t j (by omega) hj)]
    show _ = wshT now (wshA now (sRuns I F now f).1 (sRuns I F now f).2 T).1 (wshA now (sRuns I F now f).1 (sRuns I F now f).2 T).2 T (ix ((wshA now (sRuns I F now f).1 (sRuns I F now f).2 T).2 9 T))
    rw [e9, wshA_F now (sRuns I F now f).1 (sRuns I F now f).2 (by decide) T, sRuns_F I F now f (by decide) (by decide)]
theorem runT_wshA (now t : Nat) (T : Nat) (I : Nat → Int32) (F : Nat → Nat → Int32) : ∀ i, (∀ j, j < i → dOk now F (3 * t + j)) → (∀ q j k, q < T → j < ix (F 9 q) → k < i → 3 * q + j ≠ 3 * t + k) → runT now (wshA now I F T).1 (wshA now I F T).2 t i = wshA now (runT now I F t i).1 (runT now I F t i).2 T
  | 0, _, _ => rfl
  | i + 1, h, h2 => by
    show sRuns (runT now (wshA now I F T).1 (wshA now I F T).2 t i).1 (runT now (wshA now I F T).1 (wshA now I F T).2 t i).2 now (3 * t + i) = _
    rw [runT_wshA now t T I F i (fun j hj => h j (by omega)) (fun q j k a b c => h2 q j k a b (by omega)), run_wshA now _ T _ _ (dOk_c (runT_F now I F t (by decide) (by decide) i) (h i (by omega))) (fun q j a b => h2 q j i a (by rw [runT_F now I F t (by decide) (by decide) i] at b; exact b) (by omega))]
    rfl
/-- one tree's day: its faces run, then they are washed -/
theorem dT_eq (now : Nat) (u : MS) (t : Nat) : ∀ i, (∀ j, j < i → dOk now u.2 (3 * t + j)) → dT now u t i = wshT now (runT now u.1 u.2 t i).1 (runT now u.1 u.2 t i).2 t i
  | 0, _ => rfl
  | i + 1, h => by
    show fdy now (dT now u t i) (3 * t + i) = _
    rw [dT_eq now u t i (fun j hj => h j (by omega))]
    unfold fdy
    rw [run_wshT now _ _ t (3 * t + i) (dOk_c (runT_F now u.1 u.2 t (by decide) (by decide) i) (h i (by omega))) i (fun j hj => by omega)]
    rfl
theorem wash_0 (now : Nat) (I : Nat → Int32) (F : Nat → Nat → Int32) (f : Nat) (h : ∀ g, g < 4 → F 14 (4 * f + g) = 0) : sWash I F now f = (I, F) := by
  have hz : ∀ R : Int32, (0 : Int32) * R / 100 = 0 := fun R => by rw [Int32.zero_mul]; rfl
  unfold sWash
  refine Prod.ext ?_ ?_
  · show va_up I 28 _ = I
    refine up_0 I 28 ?_
    rw [ls_tail (a := 0) 4 (by omega) (fun g _ hg => by rw [h g hg, hz])]
    simp [l_sum]
  · show washF F f 4 _ = F
    funext k j
    unfold washF
    by_cases c : k = 14 ∧ 4 * f ≤ j ∧ j < 4 * f + 4
    · rw [if_pos c]
      have := h (j - 4 * f) (by omega)
      rw [show 4 * f + (j - 4 * f) = j by omega] at this
      rw [c.1, this, hz]
      simp
    · rw [if_neg c]
theorem wshT_0 (now : Nat) (I : Nat → Int32) (F : Nat → Nat → Int32) (t : Nat) : ∀ i, (∀ j, j < i → ∀ g, g < 4 → F 14 (4 * (3 * t + j) + g) = 0) → wshT now I F t i = (I, F)
  | 0, _ => rfl
  | i + 1, h => by
    show sWash (wshT now I F t i).1 (wshT now I F t i).2 now (3 * t + i) = _
    rw [wshT_0 now I F t i (fun j hj => h j (by omega))]
    exact wash_0 now I F _ (h i (by omega))
/-- faces elsewhere keep their cups -/
theorem wshT_14 (now : Nat) (I : Nat → Int32) (F : Nat → Nat → Int32) (t q : Nat) : ∀ i, (∀ j, j < i → ¬ (4 * (3 * t + j) ≤ q ∧ q < 4 * (3 * t + j) + 4)) → (wshT now I F t i).2 14 q = F 14 q
  | 0, _ => rfl
  | i + 1, h => by
    refine Eq.trans ?_ (wshT_14 now I F t q i (fun j hj => h j (by omega)))
    exact if_neg (fun z => h i (by omega) z.2)
theorem wshA_14 (now : Nat) (I : Nat → Int32) (F : Nat → Nat → Int32) (q : Nat) : ∀ T, (∀ t, t < T → ix (F 9 t) ≤ 3 ∧ ¬ (12 * t ≤ q ∧ q < 12 * t + 12)) → (wshA now I F T).2 14 q = F 14 q
  | 0, _ => rfl
  | T + 1, h => by
    refine Eq.trans (wshT_14 now _ _ T q _ (fun j hj => ?_)) (wshA_14 now I F q T (fun t ht => h t (by omega)))
    rw [wshA_F now I F (by decide) T] at hj
    have := h T (by omega)
    omega
theorem runT_14 (now : Nat) (I : Nat → Int32) (F : Nat → Nat → Int32) (t q : Nat) : ∀ i, (∀ j, j < i → dOk now F (3 * t + j)) → (∀ j, j < i → ¬ (4 * (3 * t + j) ≤ q ∧ q < 4 * (3 * t + j) + 4)) → (runT now I F t i).2 14 q = F 14 q
  | 0, _, _ => rfl
  | i + 1, hk, h => by
    obtain ⟨gr, k1, k2⟩ := dOk_c (runT_F now I F t (by decide) (by decide) i) (hk i (by omega))
    exact (run14o _ _ now _ gr k2 k1 q (h i (by omega))).trans (runT_14 now I F t q i (fun j hj => hk j (by omega)) (fun j hj => h j (by omega)))
theorem runA_14 (now : Nat) (I : Nat → Int32) (F : Nat → Nat → Int32) (q : Nat) : ∀ T, (∀ t, t < T → ix (F 9 t) ≤ 3 ∧ (∀ j, j < ix (F 9 t) → dOk now F (3 * t + j)) ∧ ¬ (12 * t ≤ q ∧ q < 12 * t + 12)) → (runA now I F T).2 14 q = F 14 q
  | 0, _ => rfl
  | T + 1, h => by
    have ih := runA_14 now I F q T (fun t ht => h t (by omega))
    obtain ⟨h1, h2, h3⟩ := h T (by omega)
    show (if _ then _ else _ : MS).2 14 q = _
    split
    · rw [runA_F now I F (by decide) (by decide) T]
      exact (runT_14 now _ _ T q _ (fun j hj => dOk_c (runA_F now I F (by decide) (by decide) T) (h2 j hj)) (fun j hj => by omega)).trans ih
    · exact ih
theorem dA_eq (now : Nat) (L : Nat → Nat) (I : Nat → Int32) (F : Nat → Nat → Int32) : ∀ T, (∀ t, t < T → F 9 t = nI (L (2 + t)) ∧ L (2 + t) ≤ 3 ∧ (∀ j, j < L (2 + t) → dOk now F (3 * t + j)) ∧ (¬ F 8 t = 0 → ∀ q, q < 12 → F 14 (12 * t + q) = 0)) → dA now L F (I, F) T = wshA now (runA now I F T).1 (runA now I F T).2 T
  | 0, _ => rfl
  | T + 1, h => by
    have ih := dA_eq now L I F T (fun t ht => h t (by omega))
    obtain ⟨h1, h2, h3, h4⟩ := h T (by omega)
    have e9 : (runA now I F T).2 9 = F 9 := runA_F now I F (by decide) (by decide) T
    have e8 : (runA now I F T).2 8 = F 8 := runA_F now I F (by decide) (by decide) T
    have e13 : (runA now I F T).2 13 = F 13 := runA_F now I F (by decide) (by decide) T
    have w9 : (wshA now (runA now I F T).1 (runA now I F T).2 T).2 9 = F 9 := (wshA_F now _ _ (by decide) T).trans e9
    have w13 : (wshA now (runA now I F T).1 (runA now I F T).2 T).2 13 = F 13 := (wshA_F now _ _ (by decide) T).trans e13
    have ixo : ix (F 9 T) = L (2 + T) := by rw [h1, ix_n (by omega)]
    have ixl : ∀ q, q < T → ix (F 9 q) ≤ 3 := fun q hq => by
      obtain ⟨a, b, -⟩ := h q (by omega)
      rw [a, ix_n (by omega)]
      exact b
    show (if F 8 T = 0 then dT now (dA now L F (I, F) T) T (L (2 + T)) else dA now L F (I, F) T) = wshA now (if (runA now I F T).2 8 T = 0 then runT now (runA now I F T).1 (runA now I F T).2 T (ix ((runA now I F T).2 9 T)) else runA now I F T).1 (if (runA now I F T).2 8 T = 0 then runT now (runA now I F T).1 (runA now I F T).2 T (ix ((runA now I F T).2 9 T)) else runA now I F T).2 (T + 1)
    rw [e8, e9, ixo, ih]
    by_cases h8 : F 8 T = 0
    · rw [if_pos h8, if_pos h8, dT_eq now _ T _ (fun j hj => dOk_c w13 (h3 j hj)), runT_wshA now T T _ _ _ (fun j hj => dOk_c e13 (h3 j hj)) (fun q j k a b c => by
        have := ixl q a
        rw [e9] at b
        omega)]
      show _ = wshT now (wshA now (runT now (runA now I F T).1 (runA now I F T).2 T (L (2 + T))).1 (runT now (runA now I F T).1 (runA now I F T).2 T (L (2 + T))).2 T).1 (wshA now (runT now (runA now I F T).1 (runA now I F T).2 T (L (2 + T))).1 (runT now (runA now I F T).1 (runA now I F T).2 T (L (2 + T))).2 T).2 T (ix ((wshA now (runT now (runA now I F T).1 (runA now I F T).2 T (L (2 + T))).1 (runT now (runA now I F T).1 (runA now I F T).2 T (L (2 + T))).2 T).2 9 T))
      rw [wshA_F now _ _ (by decide) T, runT_F now _ _ _ (by decide) (by decide), e9, ixo]
    · rw [if_neg h8, if_neg h8]
      show _ = wshT now (wshA now (runA now I F T).1 (runA now I F T).2 T).1 (wshA now (runA now I F T).1 (runA now I F T).2 T).2 T (ix ((wshA now (runA now I F T).1 (runA now I F T).2 T).2 9 T))
      rw [wshT_0 now _ _ T _ (fun j hj g hg => by
        rw [w9, ixo] at hj
        have hzz := h4 h8 (4 * j + g) (by omega)
        rw [show 12 * T + (4 * j + g) = 4 * (3 * T + j) + g by omega] at hzz
        rw [wshA_14 now _ _ _ T (fun t ht => ⟨by rw [e9]; exact ixl t ht, by omega⟩), runA_14 now I F _ T (fun t ht => ⟨ixl t ht, fun k hk => by
          obtain ⟨a, b, c, -⟩ := h t (by omega)
          rw [a, ix_n (by omega)] at hk
          exact c k hk, by omega⟩)]
        exact hzz)]
