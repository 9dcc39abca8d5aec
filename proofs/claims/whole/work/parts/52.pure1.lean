def bt (x : Int32) (i : Nat) : Bool := x.toBitVec.getLsbD i
theorem b_ext {x y : Int32} (h : ∀ i, i < 32 → bt x i = bt y i) : x = y := Int32.toBitVec_inj.mp (BitVec.eq_of_getLsbD_eq (fun i hi => h i hi))
theorem b_or (x y : Int32) (i : Nat) : bt (x ||| y) i = (bt x i || bt y i) := by unfold bt; rw [Int32.toBitVec_or, BitVec.getLsbD_or]
theorem b_and (x y : Int32) (i : Nat) : bt (x &&& y) i = (bt x i && bt y i) := by unfold bt; rw [Int32.toBitVec_and, BitVec.getLsbD_and]
theorem b_xor (x y : Int32) (i : Nat) : bt (x ^^^ y) i = (bt x i ^^ bt y i) := by unfold bt; rw [Int32.toBitVec_xor, BitVec.getLsbD_xor]
theorem b_big {x : Int32} {i : Nat} (h : 32 ≤ i) : bt x i = false := BitVec.getLsbD_of_ge _ _ h
theorem b_0 (i : Nat) : bt 0 i = false := BitVec.getLsbD_zero
theorem s_l : ∀ n, n < 32 → ((nI n &&& 31).toBitVec.smod 32).toNat = n := by decide +kernel
theorem s_u : ∀ n, n < 32 → (((nI n).toUInt32 &&& Int32.toUInt32 31).toBitVec % 32).toNat = n := by decide +kernel
theorem b_shl (n : Nat) (hn : n < 32) (x : Int32) {i : Nat} (hi : i < 32) : bt (x <<< (nI n &&& 31)) i = (decide (n ≤ i) && bt x (i - n)) := by
  unfold bt
  rw [Int32.toBitVec_shiftLeft]
  show (x.toBitVec <<< ((nI n &&& 31).toBitVec.smod 32).toNat).getLsbD i = _
  rw [s_l n hn, BitVec.getLsbD_shiftLeft]
  rcases Nat.lt_or_ge i n with h | h
  · simp [h, Nat.not_le.mpr h]
  · simp [hi, h, Nat.not_lt.mpr h]
theorem b_sshr (n : Nat) (hn : n < 32) (x : Int32) {i : Nat} (hi : i < 32) : bt (x >>> (nI n &&& 31)) i = if n + i < 32 then bt x (n + i) else bt x 31 := by
  unfold bt
  rw [Int32.toBitVec_shiftRight]
  show (x.toBitVec.sshiftRight ((nI n &&& 31).toBitVec.smod 32).toNat).getLsbD i = _
  rw [s_l n hn, BitVec.getLsbD_sshiftRight, BitVec.msb_eq_getLsbD_last]
  simp [hi]
theorem bt1 (Z : Int32) : Z &&& 1 = 1 ↔ bt Z 0 = true := by
  have h1 : ∀ i, i < 32 → bt 1 i = decide (i = 0) := by decide +kernel
  constructor
  · intro h
    have := congrArg (fun z => bt z 0) h
    simp only [b_and, h1 0 (by decide)] at this
    simpa using this
  · intro h
    refine b_ext (fun i hi => ?_)
    rw [b_and, h1 i hi]
    by_cases q : i = 0
    · subst q; simp [h]
    · simp [q]
theorem bt15 (Z : Int32) : Z &&& 15 = 15 ↔ bt Z 0 = true ∧ bt Z 1 = true ∧ bt Z 2 = true ∧ bt Z 3 = true := by
  have h1 : ∀ i, i < 32 → bt 15 i = decide (i < 4) := by decide +kernel
  constructor
  · intro h
    have k : ∀ i, i < 4 → bt Z i = true := fun i hi => by
      have := congrArg (fun z => bt z i) h
      simp only [b_and, h1 i (by omega)] at this
      simpa [hi] using this
    exact ⟨k 0 (by decide), k 1 (by decide), k 2 (by decide), k 3 (by decide)⟩
  · rintro ⟨k0, k1, k2, k3⟩
    refine b_ext (fun i hi => ?_)
    rw [b_and, h1 i hi]
    by_cases q : i < 4
    · have : i = 0 ∨ i = 1 ∨ i = 2 ∨ i = 3 := by omega
      rcases this with rfl | rfl | rfl | rfl <;> simp [*]
    · simp [q]
theorem btS (Y : Int32) {n i : Nat} (h : n + i < 32) : bt (Y >>> (nI n &&& 31)) i = bt Y (n + i) := by
  rw [b_sshr n (by omega) Y (by omega), if_pos h]
theorem rests_eq (Y : Int32) {y : Nat} (hy : y ≤ 20) : rstC Y (nI y) = rst Y y 4 := by
  by_cases h4 : 4 ≤ y
  · have e1 : ∀ j, j < 4 → ((Y >>> (nI (y - (j + 1)) &&& 31)) &&& 1 = 1 ↔ bt Y (y - (j + 1)) = true) := fun j hj => by
      rw [bt1, btS Y (by omega), Nat.add_zero]
    have e0 : nI y - 4 = nI (y - 4) := pk_sub (b := 4) h4
    have e15 : ((Y >>> (nI (y - 4) &&& 31)) &&& 15 = 15 ↔ bt Y (y - 4) = true ∧ bt Y (y - 3) = true ∧ bt Y (y - 2) = true ∧ bt Y (y - 1) = true) := by
      rw [bt15, btS Y (by omega), btS Y (by omega), btS Y (by omega), btS Y (by omega), Nat.add_zero, show y - 4 + 1 = y - 3 by omega, show y - 4 + 2 = y - 2 by omega, show y - 4 + 3 = y - 1 by omega]
    unfold rstC
    rw [if_pos (show (4 : Int32) ≤ nI y from nI_le (a := 4) h4 (by omega)), e0]
    have r0 : rst Y y 0 = 1 := if_pos h4
    have rs : ∀ j, rst Y y (j + 1) = if rst Y y j = 0 then 0 else if (Y >>> (nI (y - (j + 1)) &&& 31)) &&& 1 = 1 then 1 else 0 := fun j => rfl
    rw [rs 3, rs 2, rs 1, rs 0, r0]
    by_cases b1 : bt Y (y - 1) = true
    · rw [if_neg (show ¬ (1 : Int32) = 0 by decide), if_pos ((e1 0 (by decide)).mpr b1)]
      by_cases b2 : bt Y (y - 2) = true
      · rw [if_neg (show ¬ (1 : Int32) = 0 by decide), if_pos ((e1 1 (by decide)).mpr b2)]
        by_cases b3 : bt Y (y - 3) = true
        · rw [if_neg (show ¬ (1 : Int32) = 0 by decide), if_pos ((e1 2 (by decide)).mpr b3)]
          by_cases b4 : bt Y (y - 4) = true
          · rw [if_neg (show ¬ (1 : Int32) = 0 by decide), if_pos ((e1 3 (by decide)).mpr b4), if_pos (e15.mpr ⟨b4, b3, b2, b1⟩)]
          · rw [if_neg (show ¬ (1 : Int32) = 0 by decide), if_neg (fun z => b4 ((e1 3 (by decide)).mp z)), if_neg (fun z => b4 (e15.mp z).1)]
        · rw [if_neg (show ¬ (1 : Int32) = 0 by decide), if_neg (fun z => b3 ((e1 2 (by decide)).mp z)), if_pos rfl, if_neg (fun z => b3 (e15.mp z).2.1)]
      · rw [if_neg (show ¬ (1 : Int32) = 0 by decide), if_neg (fun z => b2 ((e1 1 (by decide)).mp z)), if_pos rfl, if_pos rfl, if_neg (fun z => b2 (e15.mp z).2.2.1)]
    · rw [if_neg (show ¬ (1 : Int32) = 0 by decide), if_neg (fun z => b1 ((e1 0 (by decide)).mp z)), if_pos rfl, if_pos rfl, if_pos rfl, if_neg (fun z => b1 (e15.mp z).2.2.2)]
  · unfold rstC
    rw [if_neg (show ¬ (4 : Int32) ≤ nI y from fun z => h4 ((nI_leI (a := 4) (by decide) (by omega)).mp z))]
    exact (rst_0 (j := 0) (n := 4) (if_neg h4)).symm
theorem due_eq {tk rn : Nat} (h1 : tk ≤ 200000) (h2 : rn ≤ 100) : nI tk * nI rn / 100 = ((nI tk).toInt64 * (nI rn).toInt64 / 100).toInt32 := by
  have h3 : tk * rn ≤ 200000 * 100 := Nat.mul_le_mul h1 h2
  rw [nI_l (by omega), nI_l (by omega), lN_mul, show (100 : Int64) = lN 100 from rfl, pk_lDiv (by omega) (by decide) (by decide), lN_i, pk_mul, show (100 : Int32) = nI 100 from rfl, pk_div (by omega) (by decide) (by decide)]
theorem whats {v : Int32} {a b : Nat} (hab : a ≤ b) (hb : b < 2 ^ 31) (h : ∀ j, a ≤ j → j ≤ b → ¬ v = nI j) : binI v (nI a) (nI b) = 0 := binI_0.mpr (fun q => by
  obtain ⟨j, h1, h2, h3⟩ := inI_nat q (by omega) hb
  exact h j h1 h2 h3)
theorem gr4_at (F : Nat → Nat → Int32) (f : Nat) {g : Nat} (h : g < 4) : gr4 F f g = F 14 (4 * f + g) := if_pos h
theorem bg4_at (F : Nat → Nat → Int32) (b : Nat) {g : Nat} (h : g < 4) : bg4 F b g = F 18 (4 * b + g) := if_pos h
theorem bt60_at (F : Nat → Nat → Int32) (b : Nat) {t : Nat} (h : t < 60) : bt60 F b t = F 19 (60 * b + t) := if_pos h
theorem face_eq {I : Nat → Int32} {F : Nat → Nat → Int32} {nT t i o : Nat} (hn : I 3 = nI nT) (hT : nT ≤ 60) (ht : t < nT) (ho : F 9 t = nI o) (ho3 : o ≤ 3) (hi : i < o) (what : Int32) : tellF (F 11 (3 * t + i)) (F 12 (3 * t + i)) (F 13 (3 * t + i)) (cupS F (3 * t + i)) (F 15 (3 * t + i)) (gr4 F (3 * t + i)) what = sFace I F (nI t) (nI i) what := by
  unfold sFace
  rw [ix_n (by omega), ix_n (by omega), if_neg (binP hn ht (by omega)), if_neg (binP ho hi (by omega))]
  unfold tellF
  by_cases q4 : what = 4
  · subst q4
    rw [if_neg (show ¬ binI 4 4 7 = 0 by decide), gr4_at _ _ (by decide)]
    rfl
  by_cases q5 : what = 5
  · subst q5
    rw [if_neg (show ¬ binI 5 4 7 = 0 by decide), gr4_at _ _ (by decide), gr4_at _ _ (by decide)]
    rfl
  by_cases q6 : what = 6
  · subst q6
    rw [if_neg (show ¬ binI 6 4 7 = 0 by decide), gr4_at _ _ (by decide), gr4_at _ _ (by decide), gr4_at _ _ (by decide)]
    rfl
  by_cases q7 : what = 7
  · subst q7
    rw [if_neg (show ¬ binI 7 4 7 = 0 by decide), gr4_at _ _ (by decide), gr4_at _ _ (by decide), gr4_at _ _ (by decide), gr4_at _ _ (by decide)]
    rfl
  rw [if_neg q4, if_neg q5, if_neg q6, if_neg q7, if_pos (show binI what 4 7 = 0 from whats (a := 4) (b := 7) (by decide) (by decide) (fun j h1 h2 => by
    have : j = 4 ∨ j = 5 ∨ j = 6 ∨ j = 7 := by omega
    rcases this with rfl | rfl | rfl | rfl
    · exact q4
    · exact q5
    · exact q6
    · exact q7))]
theorem face_n1 {I : Nat → Int32} {F : Nat → Nat → Int32} {nT : Nat} {t : Int32} (hn : I 3 = nI nT) (hT : nT ≤ 60) (hno : ∀ j, j < nT → ¬ t = nI j) (i what : Int32) : sFace I F t i what = -1 := by
  unfold sFace
  rw [if_pos (binN hn hno (by omega))]
theorem face_n2 {I : Nat → Int32} {F : Nat → Nat → Int32} {nT t o : Nat} {i : Int32} (hn : I 3 = nI nT) (hT : nT ≤ 60) (ht : t < nT) (ho : F 9 t = nI o) (ho3 : o ≤ 3) (hno : ∀ j, j < o → ¬ i = nI j) (what : Int32) : sFace I F (nI t) i what = -1 := by
  unfold sFace
  rw [ix_n (by omega), if_neg (binP hn ht (by omega)), if_pos (binN ho hno (by omega))]
theorem fullB_eq {F : Nat → Nat → Int32} {b h : Nat} (hh : hasS F b = nI h) (hle : h ≤ 1000) : fullB (hasS F b) (F 20 b) (F 21 b) = fullI F b := by
  unfold fullB goneB fullI
  rw [hh]
  by_cases h1 : h = 1000
  · subst h1
    by_cases h2 : F 20 b = 0 <;> by_cases h3 : F 21 b = 0 <;> simp [h2, h3] <;> decide
  · rw [if_neg (show ¬ nI h = 1000 from fun z => h1 ((nI_eq (b := 1000) (by omega) (by decide)).mp z)), if_neg (show ¬ (1000 : Int32) ≤ nI h from fun z => h1 (by have := (nI_leI (a := 1000) (by decide) (by omega)).mp z; omega))]
    by_cases h2 : F 20 b = 0 <;> by_cases h3 : F 21 b = 0 <;> simp [h2, h3]
theorem gradB_eq {F : Nat → Nat → Int32} {b h : Nat} (hh : hasS F b = nI h) (h0 : 0 < h) (hle : h ≤ 1000) : gradC4 (hasS F b) (bg4 F b) = gradB F b := by
  unfold gradC4 gradB
  rw [if_pos (by rw [hh]; exact nI_lt (a := 0) h0 (by omega))]
  simp [l_sum, bg4]
theorem barrel_eq {I : Nat → Int32} {F : Nat → Nat → Int32} {nB b h w : Nat} (hn : I 16 = nI nB) (hB : nB ≤ 200) (hb : b < nB) (hh : hasS F b = nI h) (h0 : 0 < h) (hle : h ≤ 1000) (hw : F 17 b = nI w) (what : Int32) : tellB (nI w) (hasS F b) (F 20 b) (F 21 b) (bg4 F b) what = sBarrel I F (nI b) what := by
  unfold sBarrel
  rw [ix_n (by omega), if_neg (binP hn hb (by omega))]
  unfold tellB
  rw [gradB_eq hh h0 hle, fullB_eq hh hle, hw]
  by_cases q1 : what = 1
  · subst q1
    rw [if_neg (show ¬ binI 1 1 4 = 0 by decide), bg4_at _ _ (by decide)]
    rfl
  by_cases q2 : what = 2
  · subst q2
    rw [if_neg (show ¬ binI 2 1 4 = 0 by decide), bg4_at _ _ (by decide), bg4_at _ _ (by decide)]
    rfl
  by_cases q3 : what = 3
  · subst q3
    rw [if_neg (show ¬ binI 3 1 4 = 0 by decide), bg4_at _ _ (by decide), bg4_at _ _ (by decide), bg4_at _ _ (by decide)]
    rfl
  by_cases q4 : what = 4
  · subst q4
    rw [if_neg (show ¬ binI 4 1 4 = 0 by decide), bg4_at _ _ (by decide), bg4_at _ _ (by decide), bg4_at _ _ (by decide), bg4_at _ _ (by decide)]
    rfl
  rw [if_neg q1, if_neg q2, if_neg q3, if_neg q4, if_pos (show binI what 1 4 = 0 from whats (a := 1) (b := 4) (by decide) (by decide) (fun j h1 h2 => by
    have : j = 1 ∨ j = 2 ∨ j = 3 ∨ j = 4 := by omega
    rcases this with rfl | rfl | rfl | rfl
    · exact q1
    · exact q2
    · exact q3
    · exact q4))]
  by_cases q7 : what = 7
  · subst q7
    rcases fullI_01 F b with e | e <;> simp [e]
  · simp [q7]
