/-! BARRELS GROW: what a pouring leaves as it was -/
def GrB (w u : XW) (ad ad' : YA) (E E' : YE) (L L' : Nat → Nat) : Prop := (∀ k i j, k ≠ 15 → k ≠ 16 → k ≠ 17 → ¬ (k = 6 ∧ i = 1) → ad' k i j = ad k i j) ∧ (∀ k i j, lvK L' k i j → (lvK L k i j ∧ ad' k i j = ad k i j) ∨ w (ad' k i j) = none) ∧ (∀ i, i ≠ 1 → L' i = L i) ∧ (∀ j, E' 9 4 0 j = E 9 4 0 j) ∧ (∀ y, ¬ own ad L y → w y ≠ none → u y = w y) ∧ ∀ y, w y ≠ none → u y ≠ none
theorem GrB.refl {w : XW} {ad : YA} {E : YE} {L : Nat → Nat} : GrB w w ad ad E E L L := ⟨fun _ _ _ _ _ _ _ => rfl, fun _ _ _ h => Or.inl ⟨h, rfl⟩, fun _ _ => rfl, fun _ => rfl, fun _ _ _ => rfl, fun _ h => h⟩
theorem GrB.trans {w v u : XW} {ad ad1 ad2 : YA} {E E1 E2 : YE} {L L1 L2 : Nat → Nat} (h1 : GrB w v ad ad1 E E1 L L1) (h2 : GrB v u ad1 ad2 E1 E2 L1 L2) : GrB w u ad ad2 E E2 L L2 := by
  obtain ⟨a1, a2, a3, a4, a5, a6⟩ := h1
  obtain ⟨b1, b2, b3, b4, b5, b6⟩ := h2
  have hn : ∀ y, v y = none → w y = none := fun y hy => Classical.byContradiction (fun z => a6 y z hy)
  refine ⟨fun k i j p q r s => (b1 k i j p q r s).trans (a1 k i j p q r s), fun k i j hk => ?_, fun i hi => (b3 i hi).trans (a3 i hi), fun j => (b4 j).trans (a4 j), fun y hy hw => ?_, fun y hy => b6 y (a6 y hy)⟩
  · rcases b2 k i j hk with ⟨c1, c2⟩ | c1
    · rw [c2]
      exact a2 k i j c1
    · exact Or.inr (hn _ c1)
  · refine (b5 y ?_ (a6 y hw)).trans (a5 y hy hw)
    rintro ⟨k, i, j, hk, rfl⟩
    rcases a2 k i j hk with ⟨c1, c2⟩ | c1
    · exact hy ⟨k, i, j, c1, c2⟩
    · exact hw c1
/-- a step that only writes cells of the object -/
theorem GrB.step {w u : XW} {ad : YA} {E : YE} {L : Nat → Nat} (hk : Kp w u ad L) (hu : ∀ k i j, lvK L k i j → u (ad k i j) ≠ none) : GrB w u ad ad E E L L := by
  refine ⟨fun _ _ _ _ _ _ _ => rfl, fun _ _ _ h => Or.inl ⟨h, rfl⟩, fun _ _ => rfl, fun _ => rfl, fun y hy _ => hk y (fun k i j h e => hy ⟨k, i, j, h, e⟩), fun y hy => ?_⟩
  by_cases ho : own ad L y
  · obtain ⟨k, i, j, h, rfl⟩ := ho
    exact hu k i j h
  · rw [hk y (fun k i j h e => ho ⟨k, i, j, h, e⟩)]
    exact hy
theorem Rep.some {G : XG} {w : XW} {ad : YA} {E : YE} {cp L wd bw : Nat → Nat} {lb : Nat → Option Nat} {I : Nat → Int32} {F : Nat → Nat → Int32} (hR : Rep G w ad E cp L wd bw lb I F) : ∀ k i j, lvK L k i j → w (ad k i j) ≠ none := fun k i j hk z => by rw [hR.1 k i j hk] at z; cases z
theorem GrB.newb {G : XG} {w u : XW} {ad : YA} {E : YE} {cp L wd bw : Nat → Nat} {lb : Nat → Option Nat} {I : Nat → Int32} {F : Nat → Nat → Int32} (hR : Rep G w ad E cp L wd bw lb I F) (hz12 : w (G.2 12) = none) {bq gq tq q wn : Nat} (hwn : wn < 6) (hq1 : w bq = none) (hq2 : w gq = none) (hq3 : w tq = none) (hq4 : w q = none ∨ (q = (if L 1 = 0 then G.2 12 else ad 6 1 0) ∧ ∃ cap, w (if L 1 = 0 then G.2 12 else ad 6 1 0) = some (.inl (G.2 4, cap, .inr (.inr (.inr (.inr (ldat ad L 1)))))))) {x : Int32}
    (hs1 : u bq ≠ none) (hs2 : u gq ≠ none) (hs3 : u tq ≠ none) (hs4 : u (ad 5 1 0) ≠ none) (hs5 : u q ≠ none) (hs6 : u (ad 4 wn 0) ≠ none) (hfr : ∀ z, z ≠ bq → z ≠ gq → z ≠ tq → z ≠ ad 5 1 0 → z ≠ q → z ≠ ad 4 wn 0 → u z = w z) :
    GrB w u ad (brA ad (L 1) bq gq tq q) E (upE E 5 1 0 0 x) L (va_up L 1 (L 1 + 1)) := by
  have hqo : ∀ y, y = q → w y ≠ none → own ad L y := fun y e hy => by
    rcases hq4 with h | ⟨h, cap, h4⟩
    · rw [e] at hy
      exact absurd h hy
    · by_cases h0 : L 1 = 0
      · rw [if_pos h0, hz12] at h4
        cases h4
      · rw [if_neg h0] at h
        exact ⟨6, 1, 0, ⟨by omega, rfl, by omega⟩, by rw [e, h]⟩
  refine ⟨fun k i j p q r s => brA_o ad _ _ _ _ _ (fun z => z.1.elim p (fun y => y.elim q r)) s, fun k i j hk => (brl_K hR hz12 hq1 hq2 hq3 hq4 k i j hk).imp id And.left, fun i hi => upN_ne _ _ hi, fun j => by rw [upE_k _ _ _ _ _ (by decide)], fun y hy hw => ?_, fun y hw => ?_⟩
  · exact hfr y (fun e => hw (by rw [e]; exact hq1)) (fun e => hw (by rw [e]; exact hq2)) (fun e => hw (by rw [e]; exact hq3)) (fun e => hy ⟨5, 1, 0, ⟨by omega, rfl⟩, e⟩) (fun e => hy (hqo y e hw)) (fun e => hy ⟨4, wn, 0, ⟨hwn, rfl⟩, e⟩)
  · by_cases e1 : y = bq
    · rw [e1]; exact hs1
    · by_cases e2 : y = gq
      · rw [e2]; exact hs2
      · by_cases e3 : y = tq
        · rw [e3]; exact hs3
        · by_cases e4 : y = ad 5 1 0
          · rw [e4]; exact hs4
          · by_cases e5 : y = q
            · rw [e5]; exact hs5
            · by_cases e6 : y = ad 4 wn 0
              · rw [e6]; exact hs6
              · rw [hfr y e1 e2 e3 e4 e5 e6]; exact hw
theorem minc {h a : Nat} (hh : h ≤ 1000) (ha : a ≤ 400) : minI (nI a) (1000 - nI h) = nI (if 1000 - h ≤ a then 1000 - h else a) := by
  rw [show (1000 : Int32) = nI 1000 from rfl, pk_sub hh, min_nat (by omega) (by omega)]
  congr 1
  split <;> split <;> omega
/-- what pouring leaves, for its caller -/
def Prd (G : XG) (w u : XW) (ad : YA) (E : YE) (L wd : Nat → Nat) (now t am : Nat) (F : Nat → Nat → Int32) (v : MS) : Prop := ∃ (ad' : YA) (E' : YE) (cp' L' bw' : Nat → Nat) (lb' : Nat → Option Nat), Rep G u ad' E' cp' L' wd bw' lb' v.1 v.2 ∧ Inv now L' wd bw' lb' v.1 v.2 ∧ GrB w u ad ad' E E' L L' ∧ capF v.2 (nI (wd t)) (L' 1) + am = capF F (nI (wd t)) (L 1)
theorem hs_full {F F3 : Nat → Nat → Int32} {b h c : Nat} (hh : hasS F3 b = nI (h + c)) (he : h + c = 1000) : fullI F3 b = 1 := by
  unfold fullI
  rw [hh, he, if_pos (show nI 1000 = (1000 : Int32) from rfl)]
