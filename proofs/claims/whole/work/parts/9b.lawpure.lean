/-! THE LAW: what holds between two calls -/
theorem ci_agree {G : XG} {u v : XW} {a : Nat} {O : Nat → Prop} {I : Nat → Int32} {F : Nat → Nat → Int32} (h : CI G u a O I F) (he : ∀ y, O y → v y = u y) : CI G v a O I F := by
  obtain ⟨ad, E, cp, L, wd, bw, lb, now, ha, hO, hR, hV, hE⟩ := h
  exact ⟨ad, E, cp, L, wd, bw, lb, now, ha, hO, ⟨fun k i j hk => (he _ (hO k i j hk)).trans (hR.1 k i j hk), hR.2.1, hR.2.2⟩, hV, hE⟩
theorem inv_scratch {now : Nat} {L wd bw : Nat → Nat} {lb : Nat → Option Nat} {I I' : Nat → Int32} {F F' : Nat → Nat → Int32} (h : Inv now L wd bw lb I F) (hF : ∀ q, q ≠ 33 → q ≠ 34 → q ≠ 35 → q ≠ 36 → F' q = F q) (hI : ∀ q, q ≠ 37 → q ≠ 38 → I' q = I q) : Inv now L wd bw lb I' F' := by
  obtain ⟨hA, hT, hZ, hFf, hB⟩ := h
  have n : ∀ q, q < 33 → F' q = F q := fun q h => hF q (by omega) (by omega) (by omega) (by omega)
  have m : ∀ q, q < 37 → I' q = I q := fun q h => hI q (by omega) (by omega)
  refine ⟨IvA_c rfl (m 0 (by decide)) (m 3 (by decide)) (n 1 (by decide)) (n 2 (by decide)) hA, ?_, ?_, ?_, IvB_c rfl (m 16 (by decide)) (n 17 (by decide)) (n 18 (by decide)) (n 19 (by decide)) (n 20 (by decide)) (n 21 (by decide)) (n 22 (by decide)) (n 23 (by decide)) (n 24 (by decide)) hB⟩
  · unfold IvT
    rw [n 4 (by decide), n 5 (by decide), n 6 (by decide), n 7 (by decide), n 8 (by decide), n 9 (by decide)]
    exact hT
  · unfold IvZ
    rw [n 8 (by decide), n 9 (by decide), n 10 (by decide), n 11 (by decide), n 14 (by decide), n 15 (by decide)]
    exact hZ
  · unfold IvF
    rw [n 8 (by decide), n 11 (by decide), n 12 (by decide), n 13 (by decide), n 14 (by decide)]
    exact hFf
theorem ci_scratch {G : XG} {u : XW} {a : Nat} {O : Nat → Prop} {I I' : Nat → Int32} {F F' : Nat → Nat → Int32} (h : CI G u a O I F) (hF : ∀ q, q ≠ 33 → q ≠ 34 → q ≠ 35 → q ≠ 36 → F' q = F q) (hI : ∀ q, q ≠ 37 → q ≠ 38 → I' q = I q) : CI G u a O I' F' := by
  obtain ⟨ad, E, cp, L, wd, bw, lb, now, ha, hO, hR, hV, hE⟩ := h
  have n : ∀ q, q < 33 → F' q = F q := fun q h => hF q (by omega) (by omega) (by omega) (by omega)
  have m : ∀ q, q < 37 → I' q = I q := fun q h => hI q (by omega) (by omega)
  refine ⟨ad, E, cp, L, wd, bw, lb, now, ha, hO, hR.step (fun _ _ _ => False) (fun _ _ _ _ h => h.elim) (fun k i j _ _ => ⟨rfl, ?_⟩), inv_scratch hV hF hI, hE⟩
  unfold agr
  split
  · exact ⟨m 0 (by decide), m 30 (by decide), m 29 (by decide), m 31 (by decide), m 32 (by decide)⟩
  · exact n 1 (by decide)
  · exact n 2 (by decide)
  · trivial
  · rw [n 22 (by decide), n 23 (by decide), n 24 (by decide), n 25 (by decide)]; exact ⟨rfl, rfl, rfl, rfl, rfl⟩
  · rfl
  · trivial
  · split
    · exact ⟨m 26 (by decide), m 27 (by decide), m 28 (by decide)⟩
    · rfl
  · rfl
  · rfl
  · trivial
  · rfl
  · rw [n 5 (by decide), n 6 (by decide), n 7 (by decide), n 8 (by decide), n 10 (by decide)]; exact ⟨rfl, rfl, rfl, rfl, rfl⟩
  · split
    · rfl
    · unfold cupS
      rw [n 11 (by decide), n 12 (by decide), n 13 (by decide), n 14 (by decide), n 15 (by decide)]; exact ⟨rfl, rfl, rfl, rfl, rfl⟩
  · split
    · rfl
    · unfold gr4
      rw [n 14 (by decide)]
  · unfold hasS
    rw [n 18 (by decide), n 20 (by decide), n 21 (by decide)]; exact ⟨rfl, rfl, rfl⟩
  · unfold bg4
    rw [n 18 (by decide)]
  · unfold bt60
    rw [n 19 (by decide)]
def LI (G : XG) (ρ : Nat → Option Nat) (ad : Nat → Nat) (b : XW) (a : Nat) (O : Nat → Prop) (I : Nat → Int32) (F : Nat → Nat → Int32) : Prop := CI G (mw G ρ ad b I F) a O I F ∧ ∀ y, O y → ρ y = none
theorem mw_out {G : XG} {ρ : Nat → Option Nat} {ad : Nat → Nat} {b : XW} {I : Nat → Int32} {F : Nat → Nat → Int32} {y : Nat} (h : ρ y = none) : mw G ρ ad b I F y = b y := by
  unfold mw
  rw [h]
theorem mw_in {G : XG} {ρ : Nat → Option Nat} {ad : Nat → Nat} {b : XW} {I : Nat → Int32} {F : Nat → Nat → Int32} {y k : Nat} (h : ρ y = some k) : mw G ρ ad b I F y = some (mst G ad I F k) := by
  unfold mw
  rw [h]
theorem LI.step {G : XG} {ρ : Nat → Option Nat} {ad : Nat → Nat} {b u : XW} {a : Nat} {O O2 : Nat → Prop} {I I' : Nat → Int32} {F F' : Nat → Nat → Int32} (h : LI G ρ ad b a O I F) (hO : ∀ y, O2 y → O y) (hx : Nx G (mw G ρ ad b I F) u a O2 I' F') : u = mw G ρ ad u I F ∧ ∃ O', LI G ρ ad u a O' I' F' := by
  obtain ⟨O', hC, h1, h2⟩ := hx
  have hn : ∀ y, O' y → ρ y = none := fun y hy => by
    rcases h1 y hy with h3 | h3
    · exact h.2 y (hO y h3)
    · cases hr : ρ y with
      | none => rfl
      | some k => rw [mw_in hr] at h3; cases h3
  refine ⟨?_, O', ci_agree hC (fun y hy => mw_out (hn y hy)), hn⟩
  funext y
  cases hr : ρ y with
  | none => rw [mw_out hr]
  | some k =>
    rw [mw_in hr]
    have h3 : mw G ρ ad b I F y = some (mst G ad I F k) := mw_in hr
    rw [h2 y (fun h4 => by rw [h.2 y (hO y h4)] at hr; cases hr) (by rw [h3]; exact fun z => by cases z)]
    exact h3
theorem LI.scratch {G : XG} {ρ : Nat → Option Nat} {ad : Nat → Nat} {b : XW} {a : Nat} {O : Nat → Prop} {I I' : Nat → Int32} {F F' : Nat → Nat → Int32} (h : LI G ρ ad b a O I F) (hF : ∀ q, q ≠ 33 → q ≠ 34 → q ≠ 35 → q ≠ 36 → F' q = F q) (hI : ∀ q, q ≠ 37 → q ≠ 38 → I' q = I q) : LI G ρ ad b a O I' F' :=
  ⟨ci_agree (ci_scratch h.1 hF hI) (fun y hy => (mw_out (h.2 y hy)).trans (mw_out (h.2 y hy)).symm), h.2⟩
/-! what the reference's contracts ask, out of the invariant -/
section LV
variable {now : Nat} {L wd bw : Nat → Nat} {lb : Nat → Option Nat} {I : Nat → Int32} {F : Nat → Nat → Int32}
theorem iv_3 (h : Inv now L wd bw lb I F) : I 3 = nI (L 0) := h.1.2.2.1
theorem iv_60 (h : Inv now L wd bw lb I F) : L 0 ≤ 60 := h.1.2.2.2.1
theorem iv_0 (h : Inv now L wd bw lb I F) : I 0 = nI now := h.1.1
theorem iv_n (h : Inv now L wd bw lb I F) : now ≤ 3650 := h.1.2.1
theorem iv_op (h : Inv now L wd bw lb I F) : ∀ t, t < L 0 → F 9 t = nI (L (2 + t)) ∧ L (2 + t) ≤ 3 := fun t ht => ⟨(h.2.1 t ht).2.2.2.2.2.1, (h.2.1 t ht).2.2.2.2.2.2.2⟩
theorem iv_br (h : Inv now L wd bw lb I F) : ∀ t, t < L 0 → ∀ i, i ≤ L (2 + t) → nI i < (if binI (F 7 t) 20 400 = 0 then -1 else bearI (F 7 t)) → i < 3 := fun t ht i hi hlt => by
  have h3 := (iv_op h t ht).2
  rw [if_neg (binI_1.mpr (h.2.1 t ht).2.2.2.1)] at hlt
  exact (bear_lt (n := i) (by omega) (fun z => Int32.not_le.mpr hlt z)).2
theorem iv_oy (h : Inv now L wd bw lb I F) : ∀ t, t < L 0 → ∀ i, i < L (2 + t) → ∃ oy, F 13 (3 * t + i) = nI oy ∧ oy ≤ now / 365 := fun t ht i hi => (h.2.2.2.1.2.1 t ht i hi).2.1
theorem iv_px (h : Inv now L wd bw lb I F) : ∀ t, t < L 0 → F 5 t = nI (ix (F 5 t)) ∧ ix (F 5 t) ≤ 99 ∧ F 6 t = nI (ix (F 6 t)) ∧ ix (F 6 t) ≤ 99 := fun t ht => by
  obtain ⟨x, y, h1, h2, h3, h4⟩ := (h.2.1 t ht).2.2.1
  have e1 : ix (F 5 t) = x := by rw [h1, ix_n (by omega)]
  have e2 : ix (F 6 t) = y := by rw [h3, ix_n (by omega)]
  rw [e1, e2]
  exact ⟨h1, h2, h3, h4⟩
theorem iv_wd (h : Inv now L wd bw lb I F) : ∀ t, t < L 0 → F 4 t = nI (wd t) ∧ wd t < 6 := fun t ht => ⟨(h.2.1 t ht).1, (h.2.1 t ht).2.1⟩
theorem iv_16 (h : Inv now L wd bw lb I F) : I 16 = nI (L 1) := by
  obtain ⟨hs, h1, -⟩ := h.2.2.2.2
  exact h1.1
theorem iv_200 (h : Inv now L wd bw lb I F) : L 1 ≤ 200 := by
  obtain ⟨hs, h1, -⟩ := h.2.2.2.2
  exact h1.2.1
theorem iv_h0 (h : Inv now L wd bw lb I F) : ∀ q, q < L 1 → ¬ hasS F q = 0 := by
  obtain ⟨hs, h1, h2, -⟩ := h.2.2.2.2
  intro q hq h0
  have h3 := h1.2.2.1 q (by have := h1.2.1; omega)
  have h4 := (h2 q hq).2.2.1
  rw [h3.1] at h0
  have h5 : hs q = 0 := (nI_eq (a := hs q) (b := 0) (by omega) (by omega)).mp h0
  omega
theorem iv_bw (h : Inv now L wd bw lb I F) : ∀ q, q < L 1 → F 17 q = nI (bw q) ∧ bw q < 6 := by
  obtain ⟨hs, h1, h2, -⟩ := h.2.2.2.2
  exact fun q hq => ⟨(h2 q hq).1, (h2 q hq).2.1⟩
theorem inv_sLet (h : Inv now L wd bw lb I F) (w q : Int32) : Inv now L wd bw lb (sLet I F w q).2.1 (sLet I F w q).2.2 := by
  unfold sLet
  by_cases h1 : binI w 0 5 = 0
  · rw [if_pos h1]; exact h
  by_cases h2 : binI q 0 100 = 0
  · rw [if_neg h1, if_pos h2]; exact h
  rw [if_neg h1, if_neg h2]
  obtain ⟨i, -, hi, rfl⟩ := inI_nat (a := 0) (b := 5) (binI_1.mp h1) (by decide) (by decide)
  obtain ⟨k, -, hk, rfl⟩ := inI_nat (a := 0) (b := 100) (binI_1.mp h2) (by decide) (by decide)
  rw [ix_n (by omega)]
  exact inv_let h (by omega) hk
theorem inv_sStill (h : Inv now L wd bw lb I F) (b : Int32) : Inv now L wd bw lb (sStill I F b).2.1 (sStill I F b).2.2 := by
  unfold sStill
  by_cases h1 : binI b 0 (I 16 - 1) = 0
  · rw [if_pos h1]; exact h
  rw [if_neg h1]
  have h200 := iv_200 h
  obtain ⟨j, hj, rfl⟩ := inI_pred (n := L 1) (by rw [← iv_16 h]; exact binI_1.mp h1) (by omega)
  rw [ix_n (by omega)]
  by_cases h2 : F 20 j = 0
  · by_cases h3 : F 21 j = 0
    · rw [if_pos h2, if_pos h3]; exact inv_still h hj
    · rw [if_pos h2, if_neg h3]; exact h
  · rw [if_neg h2]; exact h
theorem inv_sPay (h : Inv now L wd bw lb I F) (b : Int32) : Inv now L wd bw lb (sPay I F b).2.1 (sPay I F b).2.2 := by
  unfold sPay
  by_cases h1 : binI b 0 (I 16 - 1) = 0
  · rw [if_pos h1]; exact h
  rw [if_neg h1]
  have h200 := iv_200 h
  obtain ⟨j, hj, rfl⟩ := inI_pred (n := L 1) (by rw [← iv_16 h]; exact binI_1.mp h1) (by omega)
  rw [ix_n (by omega)]
  by_cases h2 : F 20 j = 0
  · by_cases h3 : F 21 j = 0
    · by_cases h4 : F 22 (ix (F 17 j)) = 0
      · rw [if_pos h2, if_pos h3, if_pos h4]; exact h
      · rw [if_pos h2, if_pos h3, if_neg h4]; exact inv_pay h hj
    · rw [if_pos h2, if_neg h3]; exact h
  · rw [if_neg h2]; exact h
theorem inv_sWeather (h : Inv now L wd bw lb I F) (fr to w r : Int32) : Inv now L wd bw lb (sWeather I F fr to w r).2.1 (sWeather I F fr to w r).2.2 := by
  unfold sWeather
  by_cases h1 : binI fr (I 0) 3649 = 0
  · rw [if_pos h1]; exact h
  by_cases h2 : binI to fr 3649 = 0
  · rw [if_neg h1, if_pos h2]; exact h
  by_cases h3 : binI w 0 9 = 0
  · rw [if_neg h1, if_neg h2, if_pos h3]; exact h
  by_cases h4 : binI r 0 9 = 0
  · rw [if_neg h1, if_neg h2, if_neg h3, if_pos h4]; exact h
  rw [if_neg h1, if_neg h2, if_neg h3, if_neg h4]
  obtain ⟨x, -, hx, rfl⟩ := inI_nat (a := 0) (b := 9) (binI_1.mp h3) (by decide) (by decide)
  obtain ⟨y, -, hy, rfl⟩ := inI_nat (a := 0) (b := 9) (binI_1.mp h4) (by decide) (by decide)
  exact inv_weather h hx hy
end LV
theorem law_le {L i : Nat} (hL : L ≤ 2560) (hi : i ≤ 2560) (h : ¬ nI L - 5 < nI i) : i + 5 ≤ L := by
  rw [Int32.lt_iff_toInt_lt, nI_toInt (by omega), Int32.toInt_sub, nI_toInt (by omega)] at h
  have e : (5 : Int32).toInt = 5 := rfl
  rw [e] at h
  have e2 : ((L : Int) - 5).bmod (2 ^ 32) = (L : Int) - 5 := by
    apply Int.bmod_eq_of_le <;> omega
  rw [e2] at h
  omega
