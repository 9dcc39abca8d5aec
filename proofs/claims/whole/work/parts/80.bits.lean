/-! HOW MANY BITS, by bytes -/
theorem and_split {a m : Nat} (q M : Nat) (ha : a < 256) (hm : m < 256) : (a + 256 * q) &&& (m + 256 * M) = (a &&& m) + 256 * (q &&& M) := by
  have h1 : (a &&& m) < 2 ^ 8 := Nat.lt_of_le_of_lt Nat.and_le_left ha
  rw [Nat.add_comm a, Nat.add_comm m, Nat.add_comm (a &&& m), show (256 : Nat) = 2 ^ 8 from rfl]
  apply Nat.eq_of_testBit_eq
  intro i
  rw [Nat.testBit_and, Nat.testBit_two_pow_mul_add _ ha, Nat.testBit_two_pow_mul_add _ hm, Nat.testBit_two_pow_mul_add _ h1]
  by_cases h : i < 8
  · simp [h]
  · simp [h]
def b1h (x : Nat) : Nat := x / 2 &&& 85
def b2h (x : Nat) : Nat := (x &&& 51) + (x / 4 &&& 51)
def b3h (x : Nat) : Nat := (x + x / 16) &&& 15
theorem t1 : ∀ x, x < 256 → ∀ y, y < 2 → (x / 2 + 128 * y) &&& 85 = b1h x := by decide +kernel
theorem t1l : ∀ x, x < 256 → b1h x ≤ x := by decide +kernel
theorem t2 : ∀ x, x < 256 → ∀ y, y < 4 → (x / 4 + 64 * y) &&& 51 = (x / 4 &&& 51) := by decide +kernel
theorem t2l : ∀ x, x < 256 → (x &&& 51) ≤ 51 ∧ (x / 4 &&& 51) ≤ 51 := by decide +kernel
theorem t3l : ∀ x, x < 256 → b2h (x - b1h x) + b2h (x - b1h x) / 16 ≤ 72 := by decide +kernel
theorem t3 : ∀ x, x < 256 → ∀ y, y < 8 → (b2h (x - b1h x) + b2h (x - b1h x) / 16 + 16 * y) &&& 15 = b3h (b2h (x - b1h x)) := by decide +kernel
def pc8 (x : Nat) : Nat := x % 2 + x / 2 % 2 + x / 4 % 2 + x / 8 % 2 + x / 16 % 2 + x / 32 % 2 + x / 64 % 2 + x / 128 % 2
theorem t4 : ∀ x, x < 256 → b3h (b2h (x - b1h x)) = pc8 x := by decide +kernel
theorem t4n : ∀ x, x < 256 → b2h (x - b1h x) % 16 < 8 := by decide +kernel
theorem pc8_le (x : Nat) : pc8 x ≤ 8 := by unfold pc8; omega
def bcN (n : Nat) : Nat :=
  let x1 := n - (n / 2 &&& 1431655765)
  let x2 := (x1 &&& 858993459) + (x1 / 4 &&& 858993459)
  let x3 := (x2 + x2 / 16) &&& 252645135
  let x4 := x3 + x3 / 256
  let x5 := x4 + x4 / 65536
  x5 &&& 63
theorem bc_fin {a b c d : Nat} (ha : a ≤ 8) (hb : b ≤ 8) (hc : c ≤ 8) (hd : d ≤ 8) : (a + 256 * (b + 256 * (c + 256 * d)) + (a + 256 * (b + 256 * (c + 256 * d))) / 256 + (a + 256 * (b + 256 * (c + 256 * d)) + (a + 256 * (b + 256 * (c + 256 * d))) / 256) / 65536 &&& 63) = a + b + c + d := by
  rw [show (a + 256 * (b + 256 * (c + 256 * d))) / 256 = b + 256 * (c + 256 * d) by omega]
  rw [show (a + 256 * (b + 256 * (c + 256 * d)) + (b + 256 * (c + 256 * d))) / 65536 = (c + d) + 256 * d by omega]
  rw [show (63 : Nat) = 2 ^ 6 - 1 from rfl, Nat.and_two_pow_sub_one_eq_mod]
  omega
theorem bcN_bytes {a b c d : Nat} (ha : a < 256) (hb : b < 256) (hc : c < 256) (hd : d < 256) : bcN (a + 256 * (b + 256 * (c + 256 * d))) = pc8 a + pc8 b + pc8 c + pc8 d := by
  have l1a := t1l a ha
  have l1b := t1l b hb
  have l1c := t1l c hc
  have l1d := t1l d hd
  have e1 : (a + 256 * (b + 256 * (c + 256 * d))) / 2 &&& 1431655765 = b1h a + 256 * (b1h b + 256 * (b1h c + 256 * b1h d)) := by
    rw [show (a + 256 * (b + 256 * (c + 256 * d))) / 2 = (a / 2 + 128 * (b % 2)) + 256 * ((b / 2 + 128 * (c % 2)) + 256 * ((c / 2 + 128 * (d % 2)) + 256 * (d / 2 + 128 * 0))) by omega, show (1431655765 : Nat) = 85 + 256 * (85 + 256 * (85 + 256 * 85)) from rfl, and_split _ _ (by omega) (by decide), and_split _ _ (by omega) (by decide), and_split _ _ (by omega) (by decide), t1 a ha _ (by omega), t1 b hb _ (by omega), t1 c hc _ (by omega), t1 d hd 0 (by omega)]
  obtain ⟨A, hA⟩ : ∃ z, z = a - b1h a := ⟨_, rfl⟩
  obtain ⟨B, hB⟩ : ∃ z, z = b - b1h b := ⟨_, rfl⟩
  obtain ⟨C, hC⟩ : ∃ z, z = c - b1h c := ⟨_, rfl⟩
  obtain ⟨D, hD⟩ : ∃ z, z = d - b1h d := ⟨_, rfl⟩
  have e2 : a + 256 * (b + 256 * (c + 256 * d)) - (b1h a + 256 * (b1h b + 256 * (b1h c + 256 * b1h d))) = A + 256 * (B + 256 * (C + 256 * D)) := by omega
  have lA : A < 256 := by omega
  have lB : B < 256 := by omega
  have lC : C < 256 := by omega
  have lD : D < 256 := by omega
  have e3 : A + 256 * (B + 256 * (C + 256 * D)) &&& 858993459 = (A &&& 51) + 256 * ((B &&& 51) + 256 * ((C &&& 51) + 256 * (D &&& 51))) := by
    rw [show (858993459 : Nat) = 51 + 256 * (51 + 256 * (51 + 256 * 51)) from rfl, and_split _ _ lA (by decide), and_split _ _ lB (by decide), and_split _ _ lC (by decide)]
  have e4 : (A + 256 * (B + 256 * (C + 256 * D))) / 4 &&& 858993459 = (A / 4 &&& 51) + 256 * ((B / 4 &&& 51) + 256 * ((C / 4 &&& 51) + 256 * (D / 4 &&& 51))) := by
    rw [show (A + 256 * (B + 256 * (C + 256 * D))) / 4 = (A / 4 + 64 * (B % 4)) + 256 * ((B / 4 + 64 * (C % 4)) + 256 * ((C / 4 + 64 * (D % 4)) + 256 * (D / 4 + 64 * 0))) by omega, show (858993459 : Nat) = 51 + 256 * (51 + 256 * (51 + 256 * 51)) from rfl, and_split _ _ (by omega) (by decide), and_split _ _ (by omega) (by decide), and_split _ _ (by omega) (by decide), t2 A lA _ (by omega), t2 B lB _ (by omega), t2 C lC _ (by omega), t2 D lD 0 (by omega)]
  have mA := t2l A lA
  have mB := t2l B lB
  have mC := t2l C lC
  have mD := t2l D lD
  have e5 : (A &&& 51) + 256 * ((B &&& 51) + 256 * ((C &&& 51) + 256 * (D &&& 51))) + ((A / 4 &&& 51) + 256 * ((B / 4 &&& 51) + 256 * ((C / 4 &&& 51) + 256 * (D / 4 &&& 51)))) = b2h A + 256 * (b2h B + 256 * (b2h C + 256 * b2h D)) := by
    unfold b2h
    omega
  have nA := t3l a ha
  have nB := t3l b hb
  have nC := t3l c hc
  have nD := t3l d hd
  have oB := t4n b hb
  have oC := t4n c hc
  have oD := t4n d hd
  have pA := t3 a ha
  have pB := t3 b hb
  have pC := t3 c hc
  have pD := t3 d hd
  rw [t4 a ha] at pA
  rw [t4 b hb] at pB
  rw [t4 c hc] at pC
  rw [t4 d hd] at pD
  rw [← hA] at nA pA
  rw [← hB] at nB oB pB
  rw [← hC] at nC oC pC
  rw [← hD] at nD oD pD
  have lP : b2h A < 256 := by omega
  have lQ : b2h B < 256 := by omega
  have lR : b2h C < 256 := by omega
  have lS : b2h D < 256 := by omega
  generalize b2h A = P at *
  generalize b2h B = Q at *
  generalize b2h C = R at *
  generalize b2h D = S at *
  have e6 : (P + 256 * (Q + 256 * (R + 256 * S))) + (P + 256 * (Q + 256 * (R + 256 * S))) / 16 &&& 252645135 = pc8 a + 256 * (pc8 b + 256 * (pc8 c + 256 * pc8 d)) := by
    rw [show (P + 256 * (Q + 256 * (R + 256 * S))) + (P + 256 * (Q + 256 * (R + 256 * S))) / 16 = (P + P / 16 + 16 * (Q % 16)) + 256 * ((Q + Q / 16 + 16 * (R % 16)) + 256 * ((R + R / 16 + 16 * (S % 16)) + 256 * (S + S / 16 + 16 * 0))) by omega, show (252645135 : Nat) = 15 + 256 * (15 + 256 * (15 + 256 * 15)) from rfl, and_split _ _ (by omega) (by decide), and_split _ _ (by omega) (by decide), and_split _ _ (by omega) (by decide), pA _ oB, pB _ oC, pC _ oD, pD 0 (by omega)]
  have r1 := pc8_le a
  have r2 := pc8_le b
  have r3 := pc8_le c
  have r4 := pc8_le d
  unfold bcN
  simp only [e1, e2, e3, e4, e5, e6]
  exact bc_fin r1 r2 r3 r4
def pc32 (n : Nat) : Nat := pc8 (n % 256) + pc8 (n / 256 % 256) + pc8 (n / 65536 % 256) + pc8 (n / 16777216 % 256)
theorem bcN_eq {n : Nat} (h : n < 2 ^ 32) : bcN n = pc32 n := by
  have e := bcN_bytes (a := n % 256) (b := n / 256 % 256) (c := n / 65536 % 256) (d := n / 16777216 % 256) (by omega) (by omega) (by omega) (by omega)
  rw [show n % 256 + 256 * (n / 256 % 256 + 256 * (n / 65536 % 256 + 256 * (n / 16777216 % 256))) = n by omega] at e
  exact e
theorem bcN_parts {n : Nat} (h : n < 2 ^ 32) : n / 2 &&& 1431655765 ≤ n := Nat.le_trans Nat.and_le_left (Nat.div_le_self _ _)
