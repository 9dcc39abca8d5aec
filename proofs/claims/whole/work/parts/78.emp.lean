/-! a tree is emptied: in numbers -/
def nbI (v : Int32) : Int32 := if 0 < v then (v + 1000 - 1) / 1000 else 0
theorem nbI_nat {A R : Nat} (hA : A ≤ 1200) (hR : R ≤ 200000) : nbI (nI A - nI R) = nI (if A ≤ R then 0 else (A - R + 999) / 1000) := by
  unfold nbI
  by_cases h : A ≤ R
  · rw [if_pos h, if_neg (show ¬ (0 : Int32) < nI A - nI R from by
      rw [Int32.lt_iff_toInt_lt, pk_sub_toInt (by omega) (by omega), show (0 : Int32).toInt = 0 from rfl]
      omega)]
    rfl
  · rw [if_neg h, pk_sub (by omega), if_pos (show (0 : Int32) < nI (A - R) from nI_lt (a := 0) (by omega) (by omega)), show (1000 : Int32) = nI 1000 from rfl, show (1 : Int32) = nI 1 from rfl, nI_add, pk_sub (by omega), pk_div (by omega) (by decide) (by decide)]
    congr 1
theorem orN_one {F : Nat → Nat → Int32} {hs : Nat → Nat} {w : Int32} {b : Nat} : ∀ n, b < n → (∀ q, q < n → q ≠ b → ctr F hs w q = 0) → orN F hs w n = ctr F hs w b
  | 0, h, _ => absurd h (by omega)
  | n + 1, h, ho => by
    show orN F hs w n + ctr F hs w n = _
    by_cases e : b = n
    · subst e
      have : orN F hs w b = 0 := by
        have key : ∀ m, m ≤ b → orN F hs w m = 0 := fun m => by
          induction m with
          | zero => exact fun _ => rfl
          | succ m ih =>
            intro hm
            show orN F hs w m + ctr F hs w m = 0
            rw [ih (by omega), ho m (by omega) (by omega)]
        exact key b (Nat.le_refl _)
      omega
    · rw [orN_one n (by omega) (fun q hq hn => ho q (by omega) hn), ho n (by omega) (fun z => e z.symm)]
      omega
def lbR (F : Nat → Nat → Int32) (hs : Nat → Nat) : Option Nat → Nat
  | none => 0
  | some b => if fullI F b = 0 then 1000 - hs b else 0
theorem orN_lb {L bw : Nat → Nat} {F : Nat → Nat → Int32} {hs : Nat → Nat} {i : Nat} {o : Option Nat} (hi : i < 6) (hB : ∀ q, q < L 1 → F 17 q = nI (bw q) ∧ bw q < 6) (h : lbOk L bw F i o) : orN F hs (nI i) (L 1) = lbR F hs o := by
  have hw : ∀ q, q < L 1 → F 17 q = nI i → bw q = i := fun q hq e => (nI_eq (by have := (hB q hq).2; omega) (by omega)).mp ((hB q hq).1.symm.trans e)
  cases o with
  | none => exact orN_none (L 1) (fun q hq z => h q hq (hw q hq z.1))
  | some b =>
    obtain ⟨h1, h2, h3⟩ := h
    have hc : ctr F hs (nI i) b = if fullI F b = 0 then 1000 - hs b else 0 := by
      unfold ctr
      rw [if_pos (by rw [(hB b h1).1, h2])]
    show _ = if fullI F b = 0 then 1000 - hs b else 0
    rw [← hc]
    refine orN_one (L 1) h1 (fun q hq hn => ?_)
    unfold ctr
    by_cases e : F 17 q = nI i
    · rw [if_pos e, h3 q hq hn (hw q hq e), if_neg (by decide)]
    · rw [if_neg e]
theorem eSt_14 (t : Nat) (u : MS) : ∀ i q, 4 * (3 * t + i) ≤ q → (eSt t u i).2 14 q = u.2 14 q
  | 0, _, _ => rfl
  | i + 1, q, h => by
    show zeroC (pcS t (3 * t + i) (eSt t u i) 4).2 _ _ 14 q = _
    rw [zeroC_out _ (by omega), pcS_14]
    exact eSt_14 t u i q (by omega)
theorem rep_emp {G : XG} {w u : XW} {ad : YA} {E : YE} {cp L wd bw : Nat → Nat} {lb : Nat → Option Nat} {I : Nat → Int32} {F : Nat → Nat → Int32} (hR : Rep G w ad E cp L wd bw lb I F) {i : Nat} (hi : i < 6) {x y : Int32}
    (hu1 : u (ad 4 i 0) = some (.inr (6, [.int (nI i), .int (F 22 i), .int (F 23 i), .int y, .int (F 25 i), va_rf ((lb i).map (fun b => ad 15 b 0))])))
    (hu2 : u (ad 0 0 0) = some (.inr (7, [.ref (ad 1 0 0), .ref (ad 2 0 0), .ref (ad 3 0 0), .ref (ad 5 0 0), .ref (ad 5 1 0), .ref (ad 7 0 0), .ref (ad 8 0 0), .int (I 0), .int x, .int (I 29), .int (I 31), .int (I 32)])))
    (hfr : ∀ z, z ≠ ad 0 0 0 → z ≠ ad 4 i 0 → u z = w z) : Rep G u ad E cp L wd bw lb (va_up I 30 x) (setA F 24 i y) := by
  refine hR.step (fun k i' j => (k = 4 ∧ i' = i) ∨ k = 0) ?_ ?_
  · rintro k i' j hk (⟨rfl, rfl⟩ | rfl)
    · have hj : j = 0 := hk.2
      subst hj
      rw [hu1]
      simp [cst, setA_e]
    · obtain ⟨rfl, rfl⟩ := hk
      rw [hu2]
      simp [cst, va_up]
  · intro k i' j hk hx
    refine ⟨hfr _ (hR.ne hk (⟨rfl, rfl⟩ : lvK L 0 0 0) (fun z => hx (Or.inr z.1))) (hR.ne hk (⟨hi, rfl⟩ : lvK L 4 i 0) (fun z => hx (Or.inl ⟨z.1, z.2.1⟩))), ?_⟩
    unfold agr
    split <;> simp_all [setA_e, setA_n, cupS, hasS, gr4_set, bg4_set, bt60_set, l_sum, va_up]
theorem inv_emp {now : Nat} {L wd bw : Nat → Nat} {lb : Nat → Option Nat} {I : Nat → Int32} {F : Nat → Nat → Int32} (h : Inv now L wd bw lb I F) {i tk A : Nat} (hi : i < 6) (htk : F 24 i = nI tk) (hle : tk + A + capF F (nI i) (L 1) ≤ 200000) {x : Int32} : Inv now L wd bw lb (va_up I 30 x) (setA F 24 i (F 24 i + nI A)) := by
  obtain ⟨hA, hT, hZ, hF, hs, h1, h2, h3, h4, h5, h6⟩ := h
  rw [capF_eq h1] at hle
  have n : ∀ k, k ≠ 24 → setA F 24 i (F 24 i + nI A) k = F k := fun k d => setA_n _ _ _ d
  have e17 := n 17 (by decide)
  have e18 := n 18 (by decide)
  have e20 := n 20 (by decide)
  have e21 := n 21 (by decide)
  have eI : ∀ k, k ≠ 30 → va_up I 30 x k = I k := fun k hk => up_n _ _ hk
  refine ⟨IvA_c rfl (eI 0 (by decide)) (eI 3 (by decide)) (n 1 (by decide)) (n 2 (by decide)) hA, ?_, ?_, ?_, hs, BV_c (eI 16 (by decide)) e18 e20 e21 h1, by rw [e17, e20, e21]; exact h2, by rw [e18]; exact h3, by rw [e18, n 19 (by decide)]; exact h4, fun j hj => lbOk_c (fun b hb z => by rw [fullI_c e18 e20 e21]; exact z) (h5 j hj), fun j hj => ?_⟩
  · unfold IvT
    rw [n 4 (by decide), n 5 (by decide), n 6 (by decide), n 7 (by decide), n 8 (by decide), n 9 (by decide)]
    exact hT
  · unfold IvZ
    rw [n 8 (by decide), n 9 (by decide), n 10 (by decide), n 11 (by decide), n 14 (by decide), n 15 (by decide)]
    exact hZ
  · unfold IvF
    rw [n 8 (by decide), n 11 (by decide), n 12 (by decide), n 13 (by decide), n 14 (by decide)]
    exact hF
  · rw [capN_c e17 e18 e20 e21, n 22 (by decide), n 23 (by decide)]
    obtain ⟨⟨tj, t1, t2⟩, a2, a3⟩ := h6 j hj
    refine ⟨?_, a2, a3⟩
    by_cases e : j = i
    · subst e
      exact ⟨tk + A, by simp [setA_e, htk, nI_add], by omega⟩
    · exact ⟨tj, by simp [setA_e, e]; exact t1, t2⟩
/-- what empty answers -/
theorem sEmp_0 {I : Nat → Int32} {F : Nat → Nat → Int32} {nT : Nat} {t : Int32} (hn : I 3 = nI nT) (hT : nT ≤ 60) (hno : ∀ j, j < nT → ¬ t = nI j) : sEmpty I F t = (-1, I, F) := if_pos (binN hn hno (by omega))
theorem sEmp_1 {I : Nat → Int32} {F : Nat → Nat → Int32} {nT t A R nB : Nat} (hn : I 3 = nI nT) (hT : nT ≤ 60) (ht : t < nT) (h16 : I 16 = nI nB) (hB : nB ≤ 200) (hA : alS F t = nI A) (hA2 : A ≤ 1200) (hR : roomS F (F 4 t) nB = nI R) (hR2 : R ≤ 200000) :
    sEmpty I F (nI t) = if nB + (if A ≤ R then 0 else (A - R + 999) / 1000) ≤ 200 then emOk I F t else (-1, I, F) := by
  unfold sEmpty
  rw [if_neg (binP hn ht (by omega)), ix_n (by omega), h16, ix_n (by omega), hA, hR]
  by_cases h : A ≤ R
  · rw [if_pos ((sub_le0 (by omega) (by omega)).mpr h), if_pos h, if_pos (by omega)]
  · rw [if_neg (fun z => h ((sub_le0 (by omega) (by omega)).mp z)), if_neg h, pk_sub (by omega), show (1000 : Int32) = nI 1000 from rfl, show (1 : Int32) = nI 1 from rfl, nI_add, pk_sub (by omega), pk_div (by omega) (by decide) (by decide), nI_add]
    have hb : (A - R + 1000 - 1) / 1000 ≤ 3 := by omega
    have e : A - R + 1000 - 1 = A - R + 999 := by omega
    rw [e]
    by_cases h2 : nB + (A - R + 999) / 1000 ≤ 200
    · rw [if_pos h2, if_pos (show nI (nB + (A - R + 999) / 1000) ≤ (200 : Int32) from nI_le (b := 200) h2 (by decide))]
    · rw [if_neg h2, if_neg (show ¬ nI (nB + (A - R + 999) / 1000) ≤ (200 : Int32) from fun z => h2 ((nI_leI (b := 200) (by omega) (by decide)).mp z))]
