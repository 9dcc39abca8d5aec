/-- what a face's day rests on, in numbers -/
theorem day_nums {F : Nat → Nat → Int32} {now f : Nat} {cg : Nat → Nat} {la oy vx vy : Nat} (hn : now ≤ 3650) (hf : f < 180) (hcg : ∀ j, j < 720 → F 14 j = nI (cg j)) (hc4 : ∀ f, f < 180 → c4 cg f ≤ 400) (hla : F 12 f = nI la) (hla2 : la ≤ now) (hoy : F 13 f = nI oy) (hoy2 : oy ≤ now / 365) (hx : F 1 now = nI vx) (hx9 : vx ≤ 9) (hy : F 2 now = nI vy) (hy9 : vy ≤ 9) :
    ∃ (gr N C : Nat), gr < 4 ∧ gradI F f (nI now) = nI gr ∧ gradC (F 13 f) (nI now) = nI gr ∧ rnN F now f = nI N ∧ N ≤ 54 ∧ F 1 now * strC (nI now - F 12 f) = rnN F now f ∧ cupS F f = nI (c4 cg f) ∧ rnC F now f = nI C ∧ C ≤ N ∧ c4 cg f + C ≤ 400 := by
  obtain ⟨gr, hg1, hg2⟩ := gradI_nat hn hoy hoy2
  have hd : nI now - F 12 f = nI (now - la) := by rw [hla, pk_sub hla2]
  obtain ⟨s, hs1, hs2⟩ := strI_nat (k := now - la) (by omega)
  have hN : rnN F now f = nI (vx * s) := by
    unfold rnN
    rw [hd, hs2, hx, pk_mul]
  have hle : vx * s ≤ 9 * 6 := Nat.mul_le_mul hx9 hs1
  have hcup : cupS F f = nI (c4 cg f) := by
    unfold cupS
    show (((0 + F 14 (4 * f + 0)) + F 14 (4 * f + 1)) + F 14 (4 * f + 2)) + F 14 (4 * f + 3) = _
    rw [hcg _ (by omega), hcg _ (by omega), hcg _ (by omega), hcg _ (by omega), show (0 : Int32) = nI 0 from rfl, nI_add, nI_add, nI_add, nI_add, c4_eq]
    congr 1
    simp
  have h4 := hc4 f hf
  have hC : rnC F now f = nI (if 400 - c4 cg f < vx * s then 400 - c4 cg f else vx * s) := by
    unfold rnC
    rw [hN, hcup, show (400 : Int32) = nI 400 from rfl, pk_sub h4]
    exact min_nat (by omega) (by omega)
  refine ⟨gr, vx * s, _, hg1, hg2, (grad_eq hn hoy hoy2).trans hg2, hN, by omega, ?_, hcup, hC, ?_, ?_⟩
  · rw [hd, str_eq (by omega), hN, hs2, hx, pk_mul]
  · split <;> omega
  · split <;> omega
/-- the cup's grades behind the running, in numbers -/
def rvN (cg : Nat → Nat) (f gr C : Nat) (g : Nat) : Nat := if g = gr then cg (4 * f + g) + C else cg (4 * f + g)
theorem rv_nat {F : Nat → Nat → Int32} {f gr C : Nat} {cg : Nat → Nat} (hf : f < 180) (hcg : ∀ j, j < 720 → F 14 j = nI (cg j)) {c : Int32} (hc : c = nI C) (hg4 : gr < 4) : ∀ g, g < 4 → rv F f gr c g = nI (rvN cg f gr C g) := fun g hg => by
  unfold rv rvN upd
  rw [gr4_at _ _ hg, gr4_at _ _ hg4]
  by_cases e : g = gr
  · rw [if_pos e, if_pos e, hcg _ (by omega), hc, nI_add, e]
  · rw [if_neg e, if_neg e, hcg _ (by omega)]
theorem rvN_sum (cg : Nat → Nat) (f : Nat) {gr : Nat} (C : Nat) (h : gr < 4) : rvN cg f gr C 0 + rvN cg f gr C 1 + rvN cg f gr C 2 + rvN cg f gr C 3 = c4 cg f + C := by
  rw [c4_eq]
  unfold rvN
  have : gr = 0 ∨ gr = 1 ∨ gr = 2 ∨ gr = 3 := by omega
  rcases this with rfl | rfl | rfl | rfl <;> simp <;> omega
theorem ls4 (f : Nat → Int32) : l_sum f 4 = f 0 + f 1 + f 2 + f 3 := by simp [l_sum]
theorem rep_day {G : XG} {w u : XW} {ad : YA} {E : YE} {cp L wd bw : Nat → Nat} {lb : Nat → Option Nat} {I : Nat → Int32} {F : Nat → Nat → Int32} {now : Nat} (hR : Rep G w ad E cp L wd bw lb I F) (hV : Inv now L wd bw lb I F) (hn : now < 3650) {t i : Nat} (ht : t < L 0) (h8t : F 8 t = 0) (hi : i < L (2 + t)) {gr : Nat} (hg4 : gr < 4) (hgr : gradC (F 13 (3 * t + i)) (nI now) = nI gr) {n : Int32} (hnn : n = F 1 now * strC (nI now - F 12 (3 * t + i)))
    (hu1 : u (ad 13 t i) = some (.inr (2, [.int (F 11 (3 * t + i)), .int (F 12 (3 * t + i)), .int (F 13 (3 * t + i)), .int (ewH (F 2 now) (edH n (cupS F (3 * t + i))) (edF n (cupS F (3 * t + i)) gr (gr4 F (3 * t + i)))), .int (edO n (cupS F (3 * t + i)) (F 15 (3 * t + i))), .ref (ad 14 t i)])))
    (hu2 : u (ad 14 t i) = some (.inl (G.2 0, 4, .inl (ewF (F 2 now) (edH n (cupS F (3 * t + i))) (edF n (cupS F (3 * t + i)) gr (gr4 F (3 * t + i)))))))
    (hu3 : u (ad 7 0 0) = some (.inr (4, [.int (edR n (I 26)), .int (edO n (cupS F (3 * t + i)) (I 27)), .int (ewW (F 2 now) (edH n (cupS F (3 * t + i))) (edF n (cupS F (3 * t + i)) gr (gr4 F (3 * t + i))) (I 28))])))
    (hfr : ∀ y, y ≠ ad 13 t i → y ≠ ad 14 t i → y ≠ ad 7 0 0 → u y = w y) :
    Rep G u ad E cp L wd bw lb (fdy now (I, F) (3 * t + i)).1 (fdy now (I, F) (3 * t + i)).2 ∧ Inv now L wd bw lb (fdy now (I, F) (3 * t + i)).1 (fdy now (I, F) (3 * t + i)).2 := by
  obtain ⟨hA, hT, hZ, ⟨⟨cg, hcg, hc4⟩, g2, g3⟩, hB⟩ := hV
  obtain ⟨a1, a2, a3, h60, a5⟩ := hA
  obtain ⟨vx, vy, hx, hx9, hy, hy9⟩ := a5 now hn
  have h3 : ∀ q, q < L 0 → L (2 + q) ≤ 3 := fun q hq => (hT q hq).2.2.2.2.2.2.2
  have h3t := h3 t ht
  obtain ⟨⟨la, hla, hla2⟩, ⟨oy, hoy, hoy2⟩, -⟩ := g2 t ht i hi
  obtain ⟨f, hf⟩ : ∃ z, z = 3 * t + i := ⟨_, rfl⟩
  rw [← hf] at hla hoy hgr hnn hu1 hu2 hu3 ⊢
  have hf180 : f < 180 := by omega
  obtain ⟨gr', N, C, k1, k2, k3, k4, k5, k6, k7, k8, k9, k10⟩ := day_nums (F := F) (now := now) (f := f) a2 hf180 hcg hc4 hla hla2 hoy hoy2 hx hx9 hy hy9
  have hge : gr' = gr := (nI_eq (by omega) (by omega)).mp (k3.symm.trans hgr)
  subst hge
  have hix : ix (gradI F f (nI now)) = gr' := by rw [k2, ix_n (by omega)]
  have hnr : n = rnN F now f := hnn.trans k6
  obtain ⟨e1, e2, e3, e4⟩ := ed_all (n := n) (has := cupS F f) (hnr.trans k4) k5 k7 (by omega) gr' (gr4 F f) (F 15 f) (I 26)
  obtain ⟨-, e2', -, -⟩ := ed_all (n := n) (has := cupS F f) (hnr.trans k4) k5 k7 (by omega) gr' (gr4 F f) (I 27) (I 26)
  have hrc : minI n (400 - cupS F f) = rnC F now f := by rw [hnr]; rfl
  rw [hrc] at e1 e2 e3 e2'
  have hrv : upd (gr4 F f) gr' (gr4 F f gr' + rnC F now f) = rv F f gr' (rnC F now f) := rfl
  rw [hrv] at e3
  have hx4 := rv_nat (F := F) (f := f) hf180 hcg k8 hg4
  have hsum := rvN_sum cg f C hg4
  have hH : cupS F f + rnC F now f = nI (rvN cg f gr' C 0 + rvN cg f gr' C 1 + rvN cg f gr' C 2 + rvN cg f gr' C 3) := by rw [k7, k8, nI_add, hsum]
  obtain ⟨w1, w2, w3⟩ := ew_all (f := rv F f gr' (rnC F now f)) (H := cupS F f + rnC F now f) (xs := rvN cg f gr' C) hx4 (by omega) hH hy hy9 (I 28)
  rw [e1, e3, w1, e2] at hu1
  rw [e1, e3, w2] at hu2
  rw [e1, e3, w3, e4, e2', hnr] at hu3
  rw [hnr] at hu1
  have F14 := fdy14 now I F f gr' hix hg4
  have F14o := fdy14o now I F f gr' hix hg4
  obtain ⟨F', hF'⟩ : ∃ z, z = (fdy now (I, F) f).2 := ⟨_, rfl⟩
  obtain ⟨I', hI'⟩ : ∃ z, z = (fdy now (I, F) f).1 := ⟨_, rfl⟩
  have nF : ∀ k, k ≠ 14 → k ≠ 15 → F' k = F k := fun k p q => by rw [hF']; exact fdyF now I F f p q
  have n15 : ∀ q, F' 15 q = if q = f then F 15 f + (rnN F now f - rnC F now f) else F 15 q := fun q => by rw [hF']; exact fdy15 now I F f q
  have nI_ : ∀ k, k ≠ 26 → k ≠ 27 → k ≠ 28 → I' k = I k := fun k p q r => by rw [hI']; exact fdyI now I F f p q r
  have i26 : I' 26 = I 26 + rnN F now f := by rw [hI']; exact fdy26 now I F f
  have i27 : I' 27 = I 27 + (rnN F now f - rnC F now f) := by rw [hI']; exact fdy27 now I F f
  have i28 : I' 28 = I 28 + waS (rv F f gr' (rnC F now f)) (F 2 now) := by rw [hI']; exact fdy28 now I F f gr' hix hg4
  rw [← hF'] at F14 F14o
  rw [← hF', ← hI']
  have vnat : ∀ g, g < 4 → F' 14 (4 * f + g) = nI (rvN cg f gr' C g - rvN cg f gr' C g * vy / 100) := fun g hg => by
    rw [F14 g hg, hx4 g hg, hy, pk_mul, show (100 : Int32) = nI 100 from rfl]
    have hb : rvN cg f gr' C g ≤ 400 := by
      have : g = 0 ∨ g = 1 ∨ g = 2 ∨ g = 3 := by omega
      rcases this with rfl | rfl | rfl | rfl <;> omega
    have hm : rvN cg f gr' C g * vy ≤ 400 * 9 := Nat.mul_le_mul hb hy9
    have hm2 : rvN cg f gr' C g * vy ≤ rvN cg f gr' C g * 100 := Nat.mul_le_mul (Nat.le_refl _) (by omega)
    rw [pk_div (by omega) (by decide) (by decide), pk_sub (by omega)]
  have hwa : waS (rv F f gr' (rnC F now f)) (F 2 now) = nI (rvN cg f gr' C 0 * vy / 100 + rvN cg f gr' C 1 * vy / 100 + rvN cg f gr' C 2 * vy / 100 + rvN cg f gr' C 3 * vy / 100) := by
    have one : ∀ g, g < 4 → rv F f gr' (rnC F now f) g * F 2 now / 100 = nI (rvN cg f gr' C g * vy / 100) := fun g hg => by
      have hb : rvN cg f gr' C g ≤ 400 := by
        have : g = 0 ∨ g = 1 ∨ g = 2 ∨ g = 3 := by omega
        rcases this with rfl | rfl | rfl | rfl <;> omega
      have hm : rvN cg f gr' C g * vy ≤ 400 * 9 := Nat.mul_le_mul hb hy9
      rw [hx4 g hg, hy, pk_mul, show (100 : Int32) = nI 100 from rfl, pk_div (by omega) (by decide) (by decide)]
    unfold waS
    rw [ls4, one 0 (by decide), one 1 (by decide), one 2 (by decide), one 3 (by decide), nI_add, nI_add, nI_add]
  have hdl : ∀ g, rvN cg f gr' C g * vy / 100 ≤ rvN cg f gr' C g := fun g => by
    have hm2 : rvN cg f gr' C g * vy ≤ rvN cg f gr' C g * 100 := Nat.mul_le_mul (Nat.le_refl _) (by omega)
    omega
  have hcup' : cupS F' f = cupS F f + rnC F now f - waS (rv F f gr' (rnC F now f)) (F 2 now) := by
    have d0 := hdl 0
    have d1 := hdl 1
    have d2 := hdl 2
    have d3 := hdl 3
    rw [hH, hwa, pk_sub (by omega)]
    unfold cupS
    rw [ls4, vnat 0 (by decide), vnat 1 (by decide), vnat 2 (by decide), vnat 3 (by decide), nI_add, nI_add, nI_add]
    congr 1
    omega
  have h18 := nF 18 (by decide) (by decide)
  have h19 := nF 19 (by decide) (by decide)
  constructor
  · refine hR.step (fun k i' j => (k = 13 ∧ i' = t ∧ j = i) ∨ (k = 14 ∧ i' = t ∧ j = i) ∨ (k = 7 ∧ i' = 0)) ?_ ?_
    · rintro k i' j hk (⟨rfl, rfl, rfl⟩ | ⟨rfl, rfl, rfl⟩ | ⟨rfl, rfl⟩)
      · rw [hu1]
        simp only [cst, show ¬ i' = 60 by omega, if_false, ← hf]
        rw [nF 11 (by decide) (by decide), nF 12 (by decide) (by decide), nF 13 (by decide) (by decide), n15, if_pos rfl, hcup']
      · rw [hu2]
        simp only [cst, show ¬ i' = 60 by omega, if_false, ← hf]
        refine congrArg (fun z => some (Sum.inl (G.2 0, 4, Sum.inl z))) (funext fun g => ?_)
        unfold wsf
        by_cases hg : g < 4
        · rw [if_pos hg, gr4_at _ _ hg, F14 g hg]
        · rw [if_neg hg]
          unfold rv upd gr4
          rw [if_neg (by omega), if_neg hg, if_neg hg]
      · have hj : j = 0 := hk.2
        subst hj
        rw [hu3]
        simp only [cst, if_true]
        rw [i26, i27, i28]
    · intro k i' j hk hx0
      have b1 : ¬ (k = 13 ∧ i' = t ∧ j = i) := fun z => hx0 (Or.inl z)
      have b2 : ¬ (k = 14 ∧ i' = t ∧ j = i) := fun z => hx0 (Or.inr (Or.inl z))
      have b3 : ¬ (k = 7 ∧ i' = 0) := fun z => hx0 (Or.inr (Or.inr z))
      refine ⟨hfr _ (hR.ne hk (Or.inl ⟨ht, hi⟩ : lvK L 13 t i) b1) (hR.ne hk (Or.inl ⟨ht, hi⟩ : lvK L 14 t i) b2) (hR.ne hk (⟨by decide, rfl⟩ : lvK L 7 0 0) (fun z => b3 ⟨z.1, z.2.1⟩)), ?_⟩
      unfold agr
      split
      case h_1 => simp [nI_]
      case h_8 => simp [show ¬ i' = 0 from fun z => b3 ⟨rfl, z⟩]
      case h_14 =>
        by_cases q : i' = 60
        · rw [if_pos q]
        · rw [if_neg q]
          have hlt := (show (i' < L 0 ∧ j < L (2 + i')) ∨ (i' = 60 ∧ j = 0) from hk).resolve_right (fun z => q z.1)
          have := h3 i' hlt.1
          have hne : ¬ 3 * i' + j = f := fun z => b1 ⟨rfl, by omega, by omega⟩
          refine ⟨by rw [nF 11 (by decide) (by decide)], by rw [nF 12 (by decide) (by decide)], by rw [nF 13 (by decide) (by decide)], by rw [n15, if_neg hne], ?_⟩
          unfold cupS
          exact ls_cg 4 (fun g hg => F14o _ (by omega))
      case h_15 =>
        by_cases q : i' = 60
        · rw [if_pos q]
        · rw [if_neg q]
          have hlt := (show (i' < L 0 ∧ j < L (2 + i')) ∨ (i' = 60 ∧ j = 0) from hk).resolve_right (fun z => q z.1)
          have := h3 i' hlt.1
          have hne : ¬ 3 * i' + j = f := fun z => b2 ⟨rfl, by omega, by omega⟩
          funext g
          unfold gr4
          by_cases hg : g < 4
          · rw [if_pos hg, if_pos hg, F14o _ (by omega)]
          · rw [if_neg hg, if_neg hg]
      all_goals simp_all [hasS_c, bg4_c, bt60_c]
  · have fne : ∀ q j, q < 60 → j < 3 → (L 0 ≤ q ∨ L (2 + q) ≤ j) → ¬ 3 * q + j = f := fun q j p1 p2 p3 z => by
      have hq : q = t := by omega
      subst hq
      omega
    refine ⟨IvA_c rfl (nI_ 0 (by decide) (by decide) (by decide)) (nI_ 3 (by decide) (by decide) (by decide)) (nF 1 (by decide) (by decide)) (nF 2 (by decide) (by decide)) ⟨a1, a2, a3, h60, a5⟩, ?_, ?_, ⟨?_, by rw [nF 12 (by decide) (by decide), nF 13 (by decide) (by decide), nF 11 (by decide) (by decide)]; exact g2, ?_⟩, IvB_c rfl (nI_ 16 (by decide) (by decide) (by decide)) (nF 17 (by decide) (by decide)) h18 h19 (nF 20 (by decide) (by decide)) (nF 21 (by decide) (by decide)) (nF 22 (by decide) (by decide)) (nF 23 (by decide) (by decide)) (nF 24 (by decide) (by decide)) hB⟩
    · unfold IvT
      rw [nF 4 (by decide) (by decide), nF 5 (by decide) (by decide), nF 6 (by decide) (by decide), nF 7 (by decide) (by decide), nF 8 (by decide) (by decide), nF 9 (by decide) (by decide)]
      exact hT
    · refine ⟨fun q p1 p2 => by rw [nF 8 (by decide) (by decide), nF 9 (by decide) (by decide), nF 10 (by decide) (by decide)]; exact hZ.1 q p1 p2, fun q j p1 p2 p3 => ?_⟩
      obtain ⟨z1, z2, z3⟩ := hZ.2 q j p1 p2 p3
      have hne := fne q j p1 p2 p3
      refine ⟨by rw [nF 11 (by decide) (by decide)]; exact z1, by rw [n15, if_neg hne]; exact z2, fun g hg => ?_⟩
      rw [F14o _ (by omega)]
      exact z3 g hg
    · refine ⟨fun q => if 4 * f ≤ q ∧ q < 4 * f + 4 then rvN cg f gr' C (q - 4 * f) - rvN cg f gr' C (q - 4 * f) * vy / 100 else cg q, fun j hj => ?_, fun q hq => ?_⟩
      · by_cases hb : 4 * f ≤ j ∧ j < 4 * f + 4
        · simp only [if_pos hb]
          have := vnat (j - 4 * f) (by omega)
          rw [show 4 * f + (j - 4 * f) = j by omega] at this
          exact this
        · simp only [if_neg hb]
          rw [F14o j hb]
          exact hcg j hj
      · rw [c4_eq]
        by_cases hb : q = f
        · subst hb
          rw [if_pos (by omega), if_pos (by omega), if_pos (by omega), if_pos (by omega), show 4 * q - 4 * q = 0 by omega, show 4 * q + 1 - 4 * q = 1 by omega, show 4 * q + 2 - 4 * q = 2 by omega, show 4 * q + 3 - 4 * q = 3 by omega]
          omega
        · rw [if_neg (by omega), if_neg (by omega), if_neg (by omega), if_neg (by omega), ← c4_eq]
          exact hc4 q hq
    · intro q hq h8 p hp
      rw [nF 8 (by decide) (by decide)] at h8
      have z0 := g3 q hq h8 p hp
      by_cases hb : 4 * f ≤ 12 * q + p ∧ 12 * q + p < 4 * f + 4
      · exfalso
        have hqt : q = t := by omega
        rw [hqt] at h8
        exact h8 h8t
      · rw [F14o _ hb]
        exact z0
