/-! a cup is emptied: in numbers -/
theorem capF_c {F F' : Nat → Nat → Int32} (h17 : F' 17 = F 17) (h18 : F' 18 = F 18) (h20 : F' 20 = F 20) (h21 : F' 21 = F 21) (w : Int32) (n : Nat) : capF F' w n = capF F w n := by
  unfold capF
  rw [show hsF F' = hsF F from funext fun q => by unfold hsF; rw [hasS_c h18]]
  exact capN_c h17 h18 h20 h21 _ _ _
theorem fstB_c {F F' : Nat → Nat → Int32} (h17 : F' 17 = F 17) (h18 : F' 18 = F 18) (h20 : F' 20 = F 20) (h21 : F' 21 = F 21) (w : Int32) : ∀ n b, fstB F' w n b = fstB F w n b
  | 0, _ => rfl
  | n + 1, b => by
    unfold fstB
    rw [h17, fullI_c h18 h20 h21, fstB_c h17 h18 h20 h21 w n (b + 1)]
theorem setA_at (F : Nat → Nat → Int32) (k j : Nat) (x : Int32) : setA F k j x k = upd (F k) j x := setA_k F k j x
/-- pouring neither reads nor writes the cups -/
theorem fill14 (t g : Nat) : ∀ (fu : Nat) (I : Nat → Int32) (F F' : Nat → Nat → Int32) (a : Int32), (∀ k, k ≠ 14 → F' k = F k) → (fillS t g fu I F' a).1 = (fillS t g fu I F a).1 ∧ (∀ k, k ≠ 14 → (fillS t g fu I F' a).2 k = (fillS t g fu I F a).2 k) ∧ (fillS t g fu I F' a).2 14 = F' 14
  | 0, I, F, F', a, h => ⟨rfl, h, rfl⟩
  | fu + 1, I, F, F', a, h => by
    have e4 := h 4 (by decide)
    have e17 := h 17 (by decide)
    have e18 := h 18 (by decide)
    have e19 := h 19 (by decide)
    have e20 := h 20 (by decide)
    have e21 := h 21 (by decide)
    unfold fillS
    by_cases ha : 0 < a
    · rw [if_pos ha, if_pos ha, e4, fstB_c e17 e18 e20 e21]
      by_cases hb : fstB F (F 4 t) (ix (I 16)) 0 = ix (I 16)
      · rw [if_pos hb, if_pos hb, e18, e19, hasS_c e18]
        refine (fun z => ⟨z.1, z.2.1, z.2.2.trans ?_⟩) (fill14 t g fu _ _ _ _ (fun k hk => ?_))
        · unfold setA
          by_cases k1 : k = 19
          · subst k1; simp [va_up, e19]
          · by_cases k2 : k = 18
            · subst k2; simp [va_up, e18]
            · by_cases k3 : k = 17
              · subst k3; simp [va_up, e17]
              · simp [va_up, k1, k2, k3, h k hk]
        · rw [setA_n _ _ _ (by decide), setA_n _ _ _ (by decide), setA_n _ _ _ (by decide)]
      · rw [if_neg hb, if_neg hb, e18, e19, hasS_c e18]
        refine (fun z => ⟨z.1, z.2.1, z.2.2.trans ?_⟩) (fill14 t g fu _ _ _ _ (fun k hk => ?_))
        · unfold setA
          by_cases k1 : k = 19
          · subst k1; simp [va_up, e19]
          · by_cases k2 : k = 18
            · subst k2; simp [va_up, e18]
            · simp [va_up, k1, k2, h k hk]
        · rw [setA_n _ _ _ (by decide), setA_n _ _ _ (by decide)]
    · rw [if_neg ha, if_neg ha]
      exact ⟨rfl, h, rfl⟩
theorem fill_14 (t g fu : Nat) (I : Nat → Int32) (F : Nat → Nat → Int32) (a : Int32) : (fillS t g fu I F a).2 14 = F 14 := (fill14 t g fu I F F a (fun _ _ => rfl)).2.2
def pcS (t f : Nat) (u : MS) : Nat → MS
  | 0 => u
  | g + 1 => fillS t g (ix (u.2 14 (4 * f + g)) + 1) (pcS t f u g).1 (pcS t f u g).2 (u.2 14 (4 * f + g))
theorem pcS_14 (t f : Nat) (u : MS) : ∀ g, (pcS t f u g).2 14 = u.2 14
  | 0 => rfl
  | g + 1 => (fill_14 t g _ _ _ _).trans (pcS_14 t f u g)
def cupE (t f : Nat) (u : MS) : MS := ((pcS t f u 4).1, zeroC (pcS t f u 4).2 (4 * f) (4 * f + 4))
def eSt (t : Nat) (u : MS) : Nat → MS
  | 0 => u
  | i + 1 => cupE t (3 * t + i) (eSt t u i)
theorem empS_s (I : Nat → Int32) (F : Nat → Nat → Int32) (t k : Nat) : empS I F t (k + 1) = ((fillS t (k % 4) (ix ((empS I F t k).2 14 (12 * t + k)) + 1) (empS I F t k).1 (empS I F t k).2 ((empS I F t k).2 14 (12 * t + k))).1, setA (fillS t (k % 4) (ix ((empS I F t k).2 14 (12 * t + k)) + 1) (empS I F t k).1 (empS I F t k).2 ((empS I F t k).2 14 (12 * t + k))).2 14 (12 * t + k) 0) := rfl
/-- the model's way through one face's cups -/
theorem emp_g (I : Nat → Int32) (F : Nat → Nat → Int32) (t i : Nat) : ∀ g, g ≤ 4 → (empS I F t (4 * i + g)).1 = (pcS t (3 * t + i) (empS I F t (4 * i)) g).1 ∧ (∀ k, k ≠ 14 → (empS I F t (4 * i + g)).2 k = (pcS t (3 * t + i) (empS I F t (4 * i)) g).2 k) ∧ (empS I F t (4 * i + g)).2 14 = zeroC (empS I F t (4 * i)).2 (4 * (3 * t + i)) (4 * (3 * t + i) + g) 14
  | 0, _ => ⟨rfl, fun _ _ => rfl, by simp only [Nat.add_zero, zeroC_0]⟩
  | g + 1, hg => by
    obtain ⟨a1, a2, a3⟩ := emp_g I F t i g (by omega)
    have hx : (empS I F t (4 * i + g)).2 14 (12 * t + (4 * i + g)) = (empS I F t (4 * i)).2 14 (4 * (3 * t + i) + g) := by
      rw [a3, show 12 * t + (4 * i + g) = 4 * (3 * t + i) + g by omega, zeroC_at]
    have hm : (4 * i + g) % 4 = g := by omega
    have e : empS I F t (4 * i + (g + 1)) = ((fillS t g (ix ((empS I F t (4 * i)).2 14 (4 * (3 * t + i) + g)) + 1) (empS I F t (4 * i + g)).1 (empS I F t (4 * i + g)).2 ((empS I F t (4 * i)).2 14 (4 * (3 * t + i) + g))).1, setA (fillS t g (ix ((empS I F t (4 * i)).2 14 (4 * (3 * t + i) + g)) + 1) (empS I F t (4 * i + g)).1 (empS I F t (4 * i + g)).2 ((empS I F t (4 * i)).2 14 (4 * (3 * t + i) + g))).2 14 (4 * (3 * t + i) + g) 0) := by
      show empS I F t ((4 * i + g) + 1) = _
      rw [empS_s, hx, hm, show 12 * t + (4 * i + g) = 4 * (3 * t + i) + g by omega]
    obtain ⟨b1, b2, b3⟩ := fill14 t g (ix ((empS I F t (4 * i)).2 14 (4 * (3 * t + i) + g)) + 1) (empS I F t (4 * i + g)).1 (pcS t (3 * t + i) (empS I F t (4 * i)) g).2 (empS I F t (4 * i + g)).2 ((empS I F t (4 * i)).2 14 (4 * (3 * t + i) + g)) a2
    rw [e]
    refine ⟨?_, fun k hk => ?_, ?_⟩
    · show (fillS _ _ _ _ _ _).1 = _
      rw [b1, a1]
      rfl
    · show setA _ 14 _ 0 k = _
      rw [setA_n _ _ _ hk, b2 k hk, a1]
      rfl
    · show setA _ 14 _ 0 14 = _
      rw [setA_k, b3, a3, show 4 * (3 * t + i) + (g + 1) = 4 * (3 * t + i) + g + 1 from rfl, ← zeroC_s _ (show 4 * (3 * t + i) ≤ 4 * (3 * t + i) + g by omega), setA_k]
theorem emp_eq (I : Nat → Int32) (F : Nat → Nat → Int32) (t : Nat) : ∀ i, eSt t (I, F) i = empS I F t (4 * i)
  | 0 => rfl
  | i + 1 => by
    obtain ⟨a1, a2, a3⟩ := emp_g I F t i 4 (Nat.le_refl _)
    show cupE t (3 * t + i) (eSt t (I, F) i) = empS I F t (4 * i + 4)
    rw [emp_eq I F t i]
    refine Prod.ext a1.symm (funext fun k => ?_)
    show zeroC (pcS t (3 * t + i) (empS I F t (4 * i)) 4).2 (4 * (3 * t + i)) (4 * (3 * t + i) + 4) k = _
    by_cases hk : k = 14
    · subst hk
      rw [a3]
      funext j
      unfold zeroC
      rw [pcS_14]
    · rw [zeroC_ne _ _ _ hk, a2 k hk]
theorem rep_clear {G : XG} {w u : XW} {ad : YA} {E : YE} {cp L wd bw : Nat → Nat} {lb : Nat → Option Nat} {I : Nat → Int32} {F : Nat → Nat → Int32} {now : Nat} (hR : Rep G w ad E cp L wd bw lb I F) (hV : Inv now L wd bw lb I F) {t i : Nat} (ht : t < L 0) (hi : i < L (2 + t))
    (hu2 : u (ad 13 t i) = some (.inr (2, [.int (F 11 (3 * t + i)), .int (F 12 (3 * t + i)), .int (F 13 (3 * t + i)), .int 0, .int (F 15 (3 * t + i)), .ref (ad 14 t i)])))
    (hu3 : u (ad 14 t i) = some (.inl (G.2 0, 4, .inl (zrf (gr4 F (3 * t + i)) 4)))) (hfr : ∀ y, y ≠ ad 13 t i → y ≠ ad 14 t i → u y = w y) :
    Rep G u ad E cp L wd bw lb I (zeroC F (4 * (3 * t + i)) (4 * (3 * t + i) + 4)) ∧ Inv now L wd bw lb I (zeroC F (4 * (3 * t + i)) (4 * (3 * t + i) + 4)) := by
  obtain ⟨hA, hT, hZ, ⟨⟨cg, g0, g1⟩, g2, g3⟩, hB⟩ := hV
  have h60 : L 0 ≤ 60 := hA.2.2.2.1
  have h3 : ∀ q, q < L 0 → L (2 + q) ≤ 3 := fun q hq => (hT q hq).2.2.2.2.2.2.2
  have h3t := h3 t ht
  obtain ⟨f, hf⟩ : ∃ z, z = 3 * t + i := ⟨_, rfl⟩
  rw [← hf] at hu2 hu3 ⊢
  obtain ⟨F', hF'⟩ : ∃ z, z = zeroC F (4 * f) (4 * f + 4) := ⟨_, rfl⟩
  have n : ∀ k, k ≠ 14 → F' k = F k := fun k hk => by rw [hF']; exact zeroC_ne _ _ _ hk
  have ei : ∀ q, 4 * f ≤ q → q < 4 * f + 4 → F' 14 q = 0 := fun q a b => by rw [hF']; exact zeroC_in _ a b
  have eo : ∀ q, ¬ (4 * f ≤ q ∧ q < 4 * f + 4) → F' 14 q = F 14 q := fun q hq => by rw [hF']; exact zeroC_out _ hq
  rw [← hF']
  have h18 := n 18 (by decide)
  have h19 := n 19 (by decide)
  constructor
  · refine hR.step (fun k i' j => (k = 13 ∨ k = 14) ∧ i' = t ∧ j = i) ?_ ?_
    · rintro k i' j hk ⟨rfl | rfl, rfl, rfl⟩
      · have hc : cupS F' f = 0 := cupS_0 (fun g hg => ei _ (by omega) (by omega))
        rw [hu2]
        simp only [cst, show ¬ i' = 60 by omega, if_false, ← hf]
        rw [n 11 (by decide), n 12 (by decide), n 13 (by decide), n 15 (by decide), hc]
      · rw [hu3]
        simp only [cst, show ¬ i' = 60 by omega, if_false, ← hf]
        refine congrArg (fun z => some (Sum.inl (G.2 0, 4, Sum.inl z))) (funext fun g => ?_)
        unfold zrf gr4
        by_cases hg : g < 4
        · rw [if_pos hg, if_pos hg, ei _ (by omega) (by omega)]
        · rw [if_neg hg, if_neg hg, if_neg hg]
    · intro k i' j hk hx
      refine ⟨hfr _ (hR.ne hk (Or.inl ⟨ht, hi⟩ : lvK L 13 t i) (fun z => hx ⟨Or.inl z.1, z.2⟩)) (hR.ne hk (Or.inl ⟨ht, hi⟩ : lvK L 14 t i) (fun z => hx ⟨Or.inr z.1, z.2⟩)), ?_⟩
      unfold agr
      split
      case h_14 =>
        by_cases q : i' = 60
        · rw [if_pos q]
        · rw [if_neg q]
          have hlt := (show (i' < L 0 ∧ j < L (2 + i')) ∨ (i' = 60 ∧ j = 0) from hk).resolve_right (fun z => q z.1)
          have := h3 i' hlt.1
          have hne : ¬ 3 * i' + j = f := fun z => hx ⟨Or.inl rfl, by omega, by omega⟩
          refine ⟨by rw [n 11 (by decide)], by rw [n 12 (by decide)], by rw [n 13 (by decide)], by rw [n 15 (by decide)], ?_⟩
          unfold cupS
          exact ls_cg 4 (fun g hg => eo _ (by omega))
      case h_15 =>
        by_cases q : i' = 60
        · rw [if_pos q]
        · rw [if_neg q]
          have hlt := (show (i' < L 0 ∧ j < L (2 + i')) ∨ (i' = 60 ∧ j = 0) from hk).resolve_right (fun z => q z.1)
          have := h3 i' hlt.1
          have hne : ¬ 3 * i' + j = f := fun z => hx ⟨Or.inr rfl, by omega, by omega⟩
          funext g
          unfold gr4
          by_cases hg : g < 4
          · rw [if_pos hg, if_pos hg, eo _ (by omega)]
          · rw [if_neg hg, if_neg hg]
      all_goals simp_all [hasS_c, bg4_c, bt60_c]
  · have e14 : ∀ q, F 14 q = 0 → F' 14 q = 0 := fun q hq => by
      by_cases hb : 4 * f ≤ q ∧ q < 4 * f + 4
      · exact ei q hb.1 hb.2
      · rw [eo q hb]; exact hq
    refine ⟨IvA_c rfl rfl rfl (n 1 (by decide)) (n 2 (by decide)) hA, ?_, ?_, ⟨?_, by rw [n 12 (by decide), n 13 (by decide), n 11 (by decide)]; exact g2, ?_⟩, IvB_c rfl rfl (n 17 (by decide)) h18 h19 (n 20 (by decide)) (n 21 (by decide)) (n 22 (by decide)) (n 23 (by decide)) (n 24 (by decide)) hB⟩
    · unfold IvT
      rw [n 4 (by decide), n 5 (by decide), n 6 (by decide), n 7 (by decide), n 8 (by decide), n 9 (by decide)]
      exact hT
    · refine ⟨fun q p1 p2 => by rw [n 8 (by decide), n 9 (by decide), n 10 (by decide)]; exact hZ.1 q p1 p2, fun q j p1 p2 p3 => ?_⟩
      obtain ⟨z1, z2, z3⟩ := hZ.2 q j p1 p2 p3
      exact ⟨by rw [n 11 (by decide)]; exact z1, by rw [n 15 (by decide)]; exact z2, fun g hg => e14 _ (z3 g hg)⟩
    · refine ⟨fun q => if 4 * f ≤ q ∧ q < 4 * f + 4 then 0 else cg q, fun j hj => ?_, fun q hq => ?_⟩
      · by_cases hb : 4 * f ≤ j ∧ j < 4 * f + 4
        · simp only [if_pos hb]
          rw [ei j hb.1 hb.2]
          rfl
        · simp only [if_neg hb]
          rw [eo j hb]
          exact g0 j hj
      · refine Nat.le_trans ?_ (g1 q hq)
        rw [c4_eq, c4_eq]
        have hm : ∀ y, (if 4 * f ≤ y ∧ y < 4 * f + 4 then 0 else cg y) ≤ cg y := fun y => by split <;> omega
        have m0 := hm (4 * q)
        have m1 := hm (4 * q + 1)
        have m2 := hm (4 * q + 2)
        have m3 := hm (4 * q + 3)
        omega
    · intro q hq h8 p hp
      rw [n 8 (by decide)] at h8
      exact e14 _ (g3 q hq h8 p hp)
