/-! HOW MANY TREES two numbers choose -/
theorem slT_len (lo hi : Nat) : ∀ t, (slT lo hi t).length = nsum (fun t => if sel lo hi t then 1 else 0) t
  | 0 => rfl
  | t + 1 => by
    rw [slT_s, List.length_append, slT_len lo hi t]
    show _ = nsum _ t + (if sel lo hi t = true then 1 else 0)
    by_cases h : sel lo hi t = true
    · rw [if_pos h, if_pos h]; rfl
    · rw [if_neg h, if_neg h]; rfl
theorem sel_lo {lo hi t : Nat} (h : t < 30) : (if sel lo hi t = true then 1 else 0) = lo / 2 ^ t % 2 := by
  unfold sel
  rw [if_pos h]
  by_cases c : lo / 2 ^ t % 2 = 1
  · rw [decide_eq_true c, if_pos rfl, c]
  · rw [decide_eq_false c, if_neg (by decide)]
    omega
theorem sel_hi {lo hi t : Nat} : (if sel lo hi (30 + t) = true then 1 else 0) = hi / 2 ^ t % 2 := by
  unfold sel
  rw [if_neg (show ¬ 30 + t < 30 by omega), show 30 + t - 30 = t by omega]
  by_cases c : hi / 2 ^ t % 2 = 1
  · rw [decide_eq_true c, if_pos rfl, c]
  · rw [decide_eq_false c, if_neg (by decide)]
    omega
theorem nsum_split (f : Nat → Nat) (a : Nat) : ∀ b, nsum f (a + b) = nsum f a + nsum (fun j => f (a + j)) b
  | 0 => rfl
  | b + 1 => by
    show nsum f (a + b) + f (a + b) = nsum f a + (nsum (fun j => f (a + j)) b + f (a + b))
    rw [nsum_split f a b, Nat.add_assoc]
theorem nsum_cong {f g : Nat → Nat} : ∀ n, (∀ j, j < n → f j = g j) → nsum f n = nsum g n
  | 0, _ => rfl
  | n + 1, h => by
    show nsum f n + f n = nsum g n + g n
    rw [nsum_cong n (fun j hj => h j (by omega)), h n (by omega)]
theorem pcb0 {n : Nat} (h : n < 2 ^ 30) : (n % 256) % 2 = n / 2 ^ 0 % 2 := by omega
theorem pcb1 {n : Nat} (h : n < 2 ^ 30) : n % 256 / 2 % 2 = n / 2 ^ 1 % 2 := by omega
theorem pcb2 {n : Nat} (h : n < 2 ^ 30) : n % 256 / 4 % 2 = n / 2 ^ 2 % 2 := by omega
theorem pcb3 {n : Nat} (h : n < 2 ^ 30) : n % 256 / 8 % 2 = n / 2 ^ 3 % 2 := by omega
theorem pcb4 {n : Nat} (h : n < 2 ^ 30) : n % 256 / 16 % 2 = n / 2 ^ 4 % 2 := by omega
theorem pcb5 {n : Nat} (h : n < 2 ^ 30) : n % 256 / 32 % 2 = n / 2 ^ 5 % 2 := by omega
theorem pcb6 {n : Nat} (h : n < 2 ^ 30) : n % 256 / 64 % 2 = n / 2 ^ 6 % 2 := by omega
theorem pcb7 {n : Nat} (h : n < 2 ^ 30) : n % 256 / 128 % 2 = n / 2 ^ 7 % 2 := by omega
theorem pcb8 {n : Nat} (h : n < 2 ^ 30) : (n / 256 % 256) % 2 = n / 2 ^ 8 % 2 := by omega
theorem pcb9 {n : Nat} (h : n < 2 ^ 30) : n / 256 % 256 / 2 % 2 = n / 2 ^ 9 % 2 := by omega
theorem pcb10 {n : Nat} (h : n < 2 ^ 30) : n / 256 % 256 / 4 % 2 = n / 2 ^ 10 % 2 := by omega
theorem pcb11 {n : Nat} (h : n < 2 ^ 30) : n / 256 % 256 / 8 % 2 = n / 2 ^ 11 % 2 := by omega
theorem pcb12 {n : Nat} (h : n < 2 ^ 30) : n / 256 % 256 / 16 % 2 = n / 2 ^ 12 % 2 := by omega
theorem pcb13 {n : Nat} (h : n < 2 ^ 30) : n / 256 % 256 / 32 % 2 = n / 2 ^ 13 % 2 := by omega
theorem pcb14 {n : Nat} (h : n < 2 ^ 30) : n / 256 % 256 / 64 % 2 = n / 2 ^ 14 % 2 := by omega
theorem pcb15 {n : Nat} (h : n < 2 ^ 30) : n / 256 % 256 / 128 % 2 = n / 2 ^ 15 % 2 := by omega
theorem pcb16 {n : Nat} (h : n < 2 ^ 30) : (n / 65536 % 256) % 2 = n / 2 ^ 16 % 2 := by omega
theorem pcb17 {n : Nat} (h : n < 2 ^ 30) : n / 65536 % 256 / 2 % 2 = n / 2 ^ 17 % 2 := by omega
theorem pcb18 {n : Nat} (h : n < 2 ^ 30) : n / 65536 % 256 / 4 % 2 = n / 2 ^ 18 % 2 := by omega
theorem pcb19 {n : Nat} (h : n < 2 ^ 30) : n / 65536 % 256 / 8 % 2 = n / 2 ^ 19 % 2 := by omega
theorem pcb20 {n : Nat} (h : n < 2 ^ 30) : n / 65536 % 256 / 16 % 2 = n / 2 ^ 20 % 2 := by omega
theorem pcb21 {n : Nat} (h : n < 2 ^ 30) : n / 65536 % 256 / 32 % 2 = n / 2 ^ 21 % 2 := by omega
theorem pcb22 {n : Nat} (h : n < 2 ^ 30) : n / 65536 % 256 / 64 % 2 = n / 2 ^ 22 % 2 := by omega
theorem pcb23 {n : Nat} (h : n < 2 ^ 30) : n / 65536 % 256 / 128 % 2 = n / 2 ^ 23 % 2 := by omega
theorem pcb24 {n : Nat} (h : n < 2 ^ 30) : (n / 16777216 % 256) % 2 = n / 2 ^ 24 % 2 := by omega
theorem pcb25 {n : Nat} (h : n < 2 ^ 30) : n / 16777216 % 256 / 2 % 2 = n / 2 ^ 25 % 2 := by omega
theorem pcb26 {n : Nat} (h : n < 2 ^ 30) : n / 16777216 % 256 / 4 % 2 = n / 2 ^ 26 % 2 := by omega
theorem pcb27 {n : Nat} (h : n < 2 ^ 30) : n / 16777216 % 256 / 8 % 2 = n / 2 ^ 27 % 2 := by omega
theorem pcb28 {n : Nat} (h : n < 2 ^ 30) : n / 16777216 % 256 / 16 % 2 = n / 2 ^ 28 % 2 := by omega
theorem pcb29 {n : Nat} (h : n < 2 ^ 30) : n / 16777216 % 256 / 32 % 2 = n / 2 ^ 29 % 2 := by omega
theorem pcb30 {n : Nat} (h : n < 2 ^ 30) : n / 16777216 % 256 / 64 % 2 = 0 := by omega
theorem pcb31 {n : Nat} (h : n < 2 ^ 30) : n / 16777216 % 256 / 128 % 2 = 0 := by omega
theorem bits_pc {n : Nat} (h : n < 2 ^ 30) : nsum (fun t => n / 2 ^ t % 2) 30 = pc32 n := by
  have e : nsum (fun t => n / 2 ^ t % 2) 30 = 0 + n / 2 ^ 0 % 2 + n / 2 ^ 1 % 2 + n / 2 ^ 2 % 2 + n / 2 ^ 3 % 2 + n / 2 ^ 4 % 2 + n / 2 ^ 5 % 2 + n / 2 ^ 6 % 2 + n / 2 ^ 7 % 2 + n / 2 ^ 8 % 2 + n / 2 ^ 9 % 2 + n / 2 ^ 10 % 2 + n / 2 ^ 11 % 2 + n / 2 ^ 12 % 2 + n / 2 ^ 13 % 2 + n / 2 ^ 14 % 2 + n / 2 ^ 15 % 2 + n / 2 ^ 16 % 2 + n / 2 ^ 17 % 2 + n / 2 ^ 18 % 2 + n / 2 ^ 19 % 2 + n / 2 ^ 20 % 2 + n / 2 ^ 21 % 2 + n / 2 ^ 22 % 2 + n / 2 ^ 23 % 2 + n / 2 ^ 24 % 2 + n / 2 ^ 25 % 2 + n / 2 ^ 26 % 2 + n / 2 ^ 27 % 2 + n / 2 ^ 28 % 2 + n / 2 ^ 29 % 2 := rfl
  rw [e]
  unfold pc32 pc8
  rw [pcb0 h, pcb1 h, pcb2 h, pcb3 h, pcb4 h, pcb5 h, pcb6 h, pcb7 h, pcb8 h, pcb9 h, pcb10 h, pcb11 h, pcb12 h, pcb13 h, pcb14 h, pcb15 h, pcb16 h, pcb17 h, pcb18 h, pcb19 h, pcb20 h, pcb21 h, pcb22 h, pcb23 h, pcb24 h, pcb25 h, pcb26 h, pcb27 h, pcb28 h, pcb29 h, pcb30 h, pcb31 h]
  simp only [Nat.add_assoc, Nat.zero_add, Nat.add_zero]
theorem slT_pc {lo hi : Nat} (hl : lo < 2 ^ 30) (hh : hi < 2 ^ 30) : (slT lo hi 60).length = pc32 lo + pc32 hi := by
  rw [slT_len, show 60 = 30 + 30 from rfl, nsum_split, nsum_cong 30 (fun j hj => sel_lo hj), nsum_cong 30 (fun j _ => sel_hi), bits_pc hl, bits_pc hh]
