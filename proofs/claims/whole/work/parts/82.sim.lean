/-! WHAT IS FORESEEN of a cup -/
theorem sim_step {c r : Nat → Int32} {xs : Nat → Nat} (hx : ∀ g, g < 4 → r g = nI (xs g)) (hcr : ∀ g, g < 4 → c g = r g) (hsum : xs 0 + xs 1 + xs 2 + xs 3 ≤ 400) {n rain : Int32} {N R gr : Nat} (hn : n = nI N) (hN : N ≤ 54) (hr : rain = nI R) (hR : R ≤ 9) (hg4 : gr < 4) {has : Int32} (hhas : has = l_sum c 4) (ro : Int32) {k : Int32} (hk : k = if 400 - l_sum c 4 ≤ n then 400 - l_sum c 4 else n) :
    (∃ ys : Nat → Nat, (∀ g, g < 4 → ewF rain (edH n has) (edF n has gr r) g = nI (ys g)) ∧ ys 0 + ys 1 + ys 2 + ys 3 ≤ 400) ∧ (∀ g, g < 4 → upd c gr (c gr + k) g - upd c gr (c gr + k) g * rain / 100 = ewF rain (edH n has) (edF n has gr r) g) ∧ ewH rain (edH n has) (edF n has gr r) = l_sum (fun g => upd c gr (c gr + k) g - upd c gr (c gr + k) g * rain / 100) 4 ∧ edO n has ro = ro + (n - k) := by
  have hs : l_sum c 4 = nI (xs 0 + xs 1 + xs 2 + xs 3) := by
    rw [ls4, hcr 0 (by decide), hcr 1 (by decide), hcr 2 (by decide), hcr 3 (by decide), hx 0 (by decide), hx 1 (by decide), hx 2 (by decide), hx 3 (by decide), nI_add, nI_add, nI_add]
  obtain ⟨h, hh⟩ : ∃ z, z = xs 0 + xs 1 + xs 2 + xs 3 := ⟨_, rfl⟩
  rw [← hh] at hs hsum
  have hhn : has = nI h := hhas.trans hs
  have hkm : k = minI n (400 - has) := by rw [hk, hhas, min_le]
  obtain ⟨C, hC, hC2, hC3⟩ : ∃ C, k = nI C ∧ C ≤ N ∧ h + C ≤ 400 := by
    refine ⟨if 400 - h < N then 400 - h else N, ?_, by split <;> omega, by split <;> omega⟩
    rw [hkm, hn, hhn, show (400 : Int32) = nI 400 from rfl, pk_sub hsum]
    exact min_nat (by omega) (by omega)
  obtain ⟨e1, e2, e3, -⟩ := ed_all (n := n) (has := has) hn hN hhn hsum gr r ro 0
  rw [← hkm] at e1 e2 e3
  obtain ⟨vs, hvs⟩ : ∃ z : Nat → Nat, z = fun g => if g = gr then xs g + C else xs g := ⟨_, rfl⟩
  have hv : ∀ g, g < 4 → upd r gr (r gr + k) g = nI (vs g) := fun g hg => by
    rw [hvs]
    unfold upd
    by_cases e : g = gr
    · subst e
      rw [if_pos rfl]
      simp only [if_true]
      rw [hx g hg, hC, nI_add]
    · rw [if_neg e]
      simp only [if_neg e]
      exact hx g hg
  have hvsum : vs 0 + vs 1 + vs 2 + vs 3 = h + C := by
    rw [hvs, hh]
    have : gr = 0 ∨ gr = 1 ∨ gr = 2 ∨ gr = 3 := by omega
    rcases this with rfl | rfl | rfl | rfl <;> simp <;> omega
  obtain ⟨w1, w2, -⟩ := ew_all (f := upd r gr (r gr + k)) (H := has + k) (xs := vs) hv (by omega) (by rw [hvsum, hhn, hC, nI_add]) hr hR 0
  rw [e1, e3, w2, w1]
  have hvle : ∀ g, g < 4 → vs g ≤ 400 := fun g hg => by
    have : g = 0 ∨ g = 1 ∨ g = 2 ∨ g = 3 := by omega
    rcases this with rfl | rfl | rfl | rfl <;> omega
  have hd : ∀ g, vs g * R / 100 ≤ vs g := fun g => by
    have hm2 : vs g * R ≤ vs g * 100 := Nat.mul_le_mul (Nat.le_refl _) (by omega)
    omega
  have one : ∀ g, g < 4 → upd r gr (r gr + k) g * rain / 100 = nI (vs g * R / 100) := fun g hg => by
    have hm : vs g * R ≤ 400 * 9 := Nat.mul_le_mul (hvle g hg) hR
    rw [hv g hg, hr, pk_mul, show (100 : Int32) = nI 100 from rfl, pk_div (by omega) (by decide) (by decide)]
  have hw : ∀ g, g < 4 → wsf (upd r gr (r gr + k)) rain 4 g = nI (vs g - vs g * R / 100) := fun g hg => by
    unfold wsf
    rw [if_pos hg, one g hg, hv g hg, pk_sub (hd g)]
  have hcu : ∀ g, g < 4 → upd c gr (c gr + k) g = upd r gr (r gr + k) g := fun g hg => by
    unfold upd
    rw [hcr gr hg4, hcr g hg]
  have hcw : ∀ g, g < 4 → upd c gr (c gr + k) g - upd c gr (c gr + k) g * rain / 100 = wsf (upd r gr (r gr + k)) rain 4 g := fun g hg => by
    rw [hcu g hg]
    unfold wsf
    rw [if_pos hg]
  refine ⟨⟨fun g => vs g - vs g * R / 100, hw, (by show vs 0 - vs 0 * R / 100 + (vs 1 - vs 1 * R / 100) + (vs 2 - vs 2 * R / 100) + (vs 3 - vs 3 * R / 100) ≤ 400; omega)⟩, hcw, ?_, e2⟩
  have hwa : waS (upd r gr (r gr + k)) rain = nI (vs 0 * R / 100 + vs 1 * R / 100 + vs 2 * R / 100 + vs 3 * R / 100) := by
    unfold waS
    rw [ls4, one 0 (by decide), one 1 (by decide), one 2 (by decide), one 3 (by decide), nI_add, nI_add, nI_add]
  rw [ls4, hcw 0 (by decide), hcw 1 (by decide), hcw 2 (by decide), hcw 3 (by decide), hw 0 (by decide), hw 1 (by decide), hw 2 (by decide), hw 3 (by decide), nI_add, nI_add, nI_add, hwa, hhn, hC, nI_add]
  have d0 := hd 0
  have d1 := hd 1
  have d2 := hd 2
  have d3 := hd 3
  rw [pk_sub (by omega)]
  congr 1
  omega
/-- the cup that stands in for a face, behind d days -/
def simOk (F : Nat → Nat → Int32) (t f now d : Nat) (r : Nat → Int32) (has ro : Int32) : Prop := (∃ xs : Nat → Nat, (∀ g, g < 4 → r g = nI (xs g)) ∧ xs 0 + xs 1 + xs 2 + xs 3 ≤ 400) ∧ (∀ g, g < 4 → (fsim F t f now d).1 g = r g) ∧ has = l_sum (fsim F t f now d).1 4 ∧ ro = (fsim F t f now d).2
theorem sim_day {now : Nat} {L wd bw : Nat → Nat} {lb : Nat → Option Nat} {I : Nat → Int32} {F : Nat → Nat → Int32} (hV : Inv now L wd bw lb I F) {t i d : Nat} (ht : t < L 0) (h8 : F 8 t = 0) (hi : i < L (2 + t)) (hd : now + d < 3650) {r : Nat → Int32} {has ro : Int32} (h : simOk F t (3 * t + i) now d r has ro) {gr : Nat} (hg4 : gr < 4) (hgr : gradC (F 13 (3 * t + i)) (nI (now + d)) = nI gr) {n : Int32} (hn : n = F 1 (now + d) * strC (nI (now + d) - F 12 (3 * t + i))) :
    simOk F t (3 * t + i) now (d + 1) (ewF (F 2 (now + d)) (edH n has) (edF n has gr r)) (ewH (F 2 (now + d)) (edH n has) (edF n has gr r)) (edO n has ro) := by
  obtain ⟨⟨xs, hx, hsum⟩, hcr, hhas, hro⟩ := h
  obtain ⟨hA, hT, hZ, ⟨⟨cg, hcg, hc4⟩, g2, g3⟩, hB⟩ := hV
  obtain ⟨a1, a2, a3, h60, a5⟩ := hA
  obtain ⟨vx, vy, hvx, hx9, hvy, hy9⟩ := a5 (now + d) hd
  obtain ⟨⟨la, hla, hla2⟩, ⟨oy, hoy, hoy2⟩, -⟩ := g2 t ht i hi
  have h3t : L (2 + t) ≤ 3 := (hT t ht).2.2.2.2.2.2.2
  have hdd : nI (now + d) - F 12 (3 * t + i) = nI (now + d - la) := by rw [hla, pk_sub (by omega)]
  obtain ⟨sv, hs1, hs2⟩ := strI_nat (k := now + d - la) (by omega)
  have hle : vx * sv ≤ 9 * 6 := Nat.mul_le_mul hx9 hs1
  have hnN : n = nI (vx * sv) := by rw [hn, hdd, str_eq (by omega), hs2, hvx, pk_mul]
  have hgq : ix (gradI F (3 * t + i) (nI (now + d))) = gr := by rw [← grad_eq (by omega) hoy (by omega), hgr, ix_n (by omega)]
  obtain ⟨q1, q2, q3, q4⟩ := sim_step (c := (fsim F t (3 * t + i) now d).1) (gr := gr) hx hcr hsum hnN (by omega) hvy hy9 hg4 hhas ro rfl
  have hnn : F 1 (now + d) * strI (nI (now + d) - F 12 (3 * t + i)) = n := by rw [hdd, hs2, hvx, pk_mul, hnN]
  have hf1 : (fsim F t (3 * t + i) now (d + 1)) = ((fdC F t (3 * t + i) (now + d) (fsim F t (3 * t + i) now d).1).1, (fsim F t (3 * t + i) now d).2 + (fdC F t (3 * t + i) (now + d) (fsim F t (3 * t + i) now d).1).2) := if_pos hd
  have hf2 : fdC F t (3 * t + i) (now + d) (fsim F t (3 * t + i) now d).1 = (fun g => upd (fsim F t (3 * t + i) now d).1 gr ((fsim F t (3 * t + i) now d).1 gr + (if 400 - l_sum (fsim F t (3 * t + i) now d).1 4 ≤ n then 400 - l_sum (fsim F t (3 * t + i) now d).1 4 else n)) g - upd (fsim F t (3 * t + i) now d).1 gr ((fsim F t (3 * t + i) now d).1 gr + (if 400 - l_sum (fsim F t (3 * t + i) now d).1 4 ≤ n then 400 - l_sum (fsim F t (3 * t + i) now d).1 4 else n)) g * F 2 (now + d) / 100, n - (if 400 - l_sum (fsim F t (3 * t + i) now d).1 4 ≤ n then 400 - l_sum (fsim F t (3 * t + i) now d).1 4 else n)) := by
    unfold fdC
    simp only [h8, if_true, hgq, hnn]
  refine ⟨q1, fun g hg => ?_, ?_, ?_⟩
  · rw [hf1, hf2]
    exact q2 g hg
  · rw [hf1, hf2]
    exact q3
  · rw [hf1, hf2, q4, hro]
theorem sim_stay {F : Nat → Nat → Int32} {t f now d : Nat} {r : Nat → Int32} {has ro : Int32} (h : simOk F t f now d r has ro) (hd : ¬ now + d < 3650) : simOk F t f now (d + 1) r has ro := by
  unfold simOk
  rw [show fsim F t f now (d + 1) = fsim F t f now d from if_neg hd]
  exact h
theorem sim_0 {F : Nat → Nat → Int32} {cg : Nat → Nat} {t f now : Nat} (hf : f < 180) (hcg : ∀ j, j < 720 → F 14 j = nI (cg j)) (hc4 : ∀ f, f < 180 → c4 cg f ≤ 400) {r : Nat → Int32} (hr : ∀ g, g < 4 → r g = gr4 F f g) : simOk F t f now 0 r (cupS F f) 0 := by
  refine ⟨⟨fun g => cg (4 * f + g), fun g hg => ?_, ?_⟩, fun g hg => ?_, rfl, rfl⟩
  · rw [hr g hg, gr4_at _ _ hg]
    exact hcg _ (by omega)
  · have := hc4 f hf
    rw [← c4_0] at this
    exact this
  · rw [hr g hg, gr4_at _ _ hg]
    rfl
/-- nothing runs over at a burnt tree -/
theorem sim_burnt {F : Nat → Nat → Int32} {t f now : Nat} (h8 : ¬ F 8 t = 0) (hz : ∀ g, g < 4 → F 14 (4 * f + g) = 0) (hg : ∀ d, now + d < 3650 → ix (gradI F f (nI (now + d))) < 4) : ∀ d, (∀ g, g < 4 → (fsim F t f now d).1 g = 0) ∧ (fsim F t f now d).2 = 0
  | 0 => ⟨hz, rfl⟩
  | d + 1 => by
    obtain ⟨h1, h2⟩ := sim_burnt h8 hz hg d
    by_cases hd : now + d < 3650
    · have hs : l_sum (fsim F t f now d).1 4 = 0 := by rw [ls4, h1 0 (by decide), h1 1 (by decide), h1 2 (by decide), h1 3 (by decide)]; rfl
      have e : fsim F t f now (d + 1) = ((fdC F t f (now + d) (fsim F t f now d).1).1, (fsim F t f now d).2 + (fdC F t f (now + d) (fsim F t f now d).1).2) := if_pos hd
      have hk : (if 400 - l_sum (fsim F t f now d).1 4 ≤ (0 : Int32) then 400 - l_sum (fsim F t f now d).1 4 else 0) = 0 := by rw [hs]; decide
      rw [e]
      unfold fdC
      simp only [if_neg h8, hk]
      refine ⟨fun g hg' => ?_, by rw [h2]; decide⟩
      have hu : upd (fsim F t f now d).1 (ix (gradI F f (nI (now + d)))) ((fsim F t f now d).1 (ix (gradI F f (nI (now + d)))) + 0) g = 0 := by
        rw [upd_0 _ _ _ rfl]
        exact h1 g hg'
      rw [hu, Int32.zero_mul]
      rfl
    · rw [show fsim F t f now (d + 1) = fsim F t f now d from if_neg hd]
      exact ⟨h1, h2⟩
