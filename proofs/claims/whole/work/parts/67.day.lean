/-! A DAY, face by face -/
theorem str_eq {k : Nat} (hk : k < 2 ^ 31) : strC (nI k) = strI (nI k) := by
  by_cases h : k < 10
  · have : ∀ k, k < 10 → strC (nI k) = strI (nI k) := by decide +kernel
    exact this k h
  · unfold strC strI
    rw [if_neg (nI_pos hk), if_neg (show ¬ nI k < 10 from fun z => h ((nI_ltI (b := 10) hk (by decide)).mp z)), if_pos (show (5 : Int32) ≤ nI k from nI_le (a := 5) (by omega) hk), if_pos (show (10 : Int32) ≤ nI k from nI_le (a := 10) (by omega) hk)]
theorem strI_nat {k : Nat} (hk : k < 2 ^ 31) : ∃ s, s ≤ 6 ∧ strI (nI k) = nI s := by
  by_cases h : k < 10
  · have : ∀ k, k < 10 → ∃ s, s < 7 ∧ strI (nI k) = nI s := by decide +kernel
    obtain ⟨s, h1, h2⟩ := this k h
    exact ⟨s, by omega, h2⟩
  · refine ⟨0, by decide, ?_⟩
    unfold strI
    rw [if_pos (show (5 : Int32) ≤ nI k from nI_le (a := 5) (by omega) hk), if_pos (show (10 : Int32) ≤ nI k from nI_le (a := 10) (by omega) hk)]
    rfl
theorem grad_eq {F : Nat → Nat → Int32} {f now oy : Nat} (hn : now ≤ 3650) (h : F 13 f = nI oy) (ho : oy ≤ now / 365) : gradC (F 13 f) (nI now) = gradI F f (nI now) := by
  unfold gradC gradI
  rw [h, show (365 : Int32) = nI 365 from rfl, pk_div (by omega) (by decide) (by decide), pk_sub ho]
  have key : ∀ q, q < 11 → maxI 0 (minI (nI q) 3) = if nI q ≤ 3 then nI q else 3 := by decide +kernel
  exact key _ (by omega)
theorem min_le (n m : Int32) : minI n m = if m ≤ n then m else n := by
  unfold minI
  by_cases h : m < n
  · rw [if_pos h, if_pos (by rw [Int32.le_iff_toInt_le]; rw [Int32.lt_iff_toInt_lt] at h; omega)]
  · rw [if_neg h]
    by_cases h2 : m ≤ n
    · rw [if_pos h2]
      apply Int32.toInt_inj.mp
      rw [Int32.le_iff_toInt_le] at h2
      rw [Int32.lt_iff_toInt_lt] at h
      omega
    · rw [if_neg h2]
/-- the grades of a cup behind the running -/
def rv (F : Nat → Nat → Int32) (f gr : Nat) (c : Int32) : Nat → Int32 := upd (gr4 F f) gr (gr4 F f gr + c)
theorem upd_0 (f : Nat → Int32) (k : Nat) (c : Int32) (h : c = 0) : upd f k (f k + c) = f := by
  funext j
  unfold upd
  rw [h]
  by_cases e : j = k
  · rw [if_pos e, e]; simp
  · rw [if_neg e]
theorem ed_all {n has : Int32} {N h : Nat} (hn : n = nI N) (hN : N ≤ 54) (hh : has = nI h) (hle : h ≤ 400) (gr : Nat) (f : Nat → Int32) (x y : Int32) : edH n has = has + minI n (400 - has) ∧ edO n has x = x + (n - minI n (400 - has)) ∧ edF n has gr f = upd f gr (f gr + minI n (400 - has)) ∧ edR n y = y + n := by
  unfold edH edO edF edR
  by_cases h0 : n ≤ 0
  · have hz : N = 0 := by
      rw [hn] at h0
      have := (nI_leI (b := 0) (by omega) (by decide)).mp h0
      omega
    have hn0 : n = 0 := by rw [hn, hz]; rfl
    have hm : minI n (400 - has) = 0 := by
      rw [hn0, hh, show (400 : Int32) = nI 400 from rfl, pk_sub hle]
      unfold minI
      rw [if_neg (nI_pos (by omega))]
    rw [if_pos h0, if_pos h0, if_pos h0, if_pos h0, hm, upd_0 f gr 0 rfl, hn0]
    simp
  · rw [if_neg h0, if_neg h0, if_neg h0, if_neg h0]
    exact ⟨rfl, rfl, rfl, rfl⟩
theorem was0 {f : Nat → Int32} {r : Int32} (h : ∀ g, g < 4 → f g * r / 100 = 0) : waS f r = 0 := by
  unfold waS
  rw [ls_tail (a := 0) 4 (by omega) (fun j _ hj => h j hj)]
  rfl
theorem wsf0 {f : Nat → Int32} {r : Int32} (h : ∀ g, g < 4 → f g * r / 100 = 0) : wsf f r 4 = f := by
  funext j
  unfold wsf
  by_cases hj : j < 4
  · rw [if_pos hj, h j hj]; simp
  · rw [if_neg hj]
theorem ew_all {f : Nat → Int32} {H r : Int32} {xs : Nat → Nat} {R : Nat} (hx : ∀ g, g < 4 → f g = nI (xs g)) (hle : xs 0 + xs 1 + xs 2 + xs 3 ≤ 400) (hH : H = nI (xs 0 + xs 1 + xs 2 + xs 3)) (hr : r = nI R) (hR : R ≤ 9) (wa : Int32) : ewH r H f = H - waS f r ∧ ewF r H f = wsf f r 4 ∧ ewW r H f wa = wa + waS f r := by
  unfold ewH ewF ewW
  by_cases h0 : r ≤ 0
  · have hz : R = 0 := by
      rw [hr] at h0
      have := (nI_leI (b := 0) (by omega) (by decide)).mp h0
      omega
    have h1 : ∀ g, g < 4 → f g * r / 100 = 0 := fun g hg => by
      rw [hr, hz, hx g hg, pk_mul, Nat.mul_zero]
      rfl
    rw [if_pos h0, if_pos h0, if_pos h0, was0 h1, wsf0 h1]
    simp
  · by_cases h2 : H ≤ 0
    · have hz : xs 0 + xs 1 + xs 2 + xs 3 = 0 := by
        rw [hH] at h2
        have := (nI_leI (b := 0) (by omega) (by decide)).mp h2
        omega
      have h1 : ∀ g, g < 4 → f g * r / 100 = 0 := fun g hg => by
        have hg0 : xs g = 0 := by
          have : g = 0 ∨ g = 1 ∨ g = 2 ∨ g = 3 := by omega
          rcases this with rfl | rfl | rfl | rfl <;> omega
        rw [hr, hx g hg, hg0, pk_mul, Nat.zero_mul]
        rfl
      rw [if_neg h0, if_pos h2, if_neg h0, if_pos h2, if_neg h0, if_pos h2, was0 h1, wsf0 h1]
      simp
    · rw [if_neg h0, if_neg h2, if_neg h0, if_neg h2, if_neg h0, if_neg h2]
      exact ⟨rfl, rfl, rfl⟩
/-- one face's day -/
def fdy (now : Nat) (u : MS) (f : Nat) : MS := sWash (sRuns u.1 u.2 now f).1 (sRuns u.1 u.2 now f).2 now f
def rnN (F : Nat → Nat → Int32) (now f : Nat) : Int32 := F 1 now * strI (nI now - F 12 f)
def rnC (F : Nat → Nat → Int32) (now f : Nat) : Int32 := minI (rnN F now f) (400 - cupS F f)
theorem sRuns_eq (I : Nat → Int32) (F : Nat → Nat → Int32) (now f : Nat) : sRuns I F now f = (va_up (va_up I 27 (I 27 + (rnN F now f - rnC F now f))) 26 (I 26 + rnN F now f), setA (setA F 14 (4 * f + ix (gradI F f (nI now))) (F 14 (4 * f + ix (gradI F f (nI now))) + rnC F now f)) 15 f (F 15 f + (rnN F now f - rnC F now f))) := by
  unfold sRuns rnC rnN
  simp only [min_le]
/-- where a face's cups lie -/
theorem run14 (I : Nat → Int32) (F : Nat → Nat → Int32) (now f gr : Nat) (hg : ix (gradI F f (nI now)) = gr) (hg4 : gr < 4) (g : Nat) (hg : g < 4) : (sRuns I F now f).2 14 (4 * f + g) = rv F f gr (rnC F now f) g := by
  rw [sRuns_eq]
  unfold rv upd
  rw [gr4_at _ _ hg, gr4_at _ _ hg4]
  simp only [setA_e]
  by_cases e : g = gr
  · subst e
    simp [*]
  · simp [*, show ¬ 4 * f + g = 4 * f + gr by omega]
theorem run14o (I : Nat → Int32) (F : Nat → Nat → Int32) (now f gr : Nat) (hg : ix (gradI F f (nI now)) = gr) (hg4 : gr < 4) (q : Nat) (hq : ¬ (4 * f ≤ q ∧ q < 4 * f + 4)) : (sRuns I F now f).2 14 q = F 14 q := by
  rw [sRuns_eq]
  simp only [setA_e, hg]
  simp [show ¬ q = 4 * f + gr by omega]
theorem fdy14 (now : Nat) (I : Nat → Int32) (F : Nat → Nat → Int32) (f gr : Nat) (hg : ix (gradI F f (nI now)) = gr) (hg4 : gr < 4) (g : Nat) (hg : g < 4) : (fdy now (I, F) f).2 14 (4 * f + g) = rv F f gr (rnC F now f) g - rv F f gr (rnC F now f) g * F 2 now / 100 := by
  unfold fdy sWash washF
  simp only
  rw [if_pos ⟨trivial, by omega, by omega⟩, run14 I F now f gr (by assumption) hg4 g hg, sRuns_F _ _ _ _ (by decide) (by decide)]
theorem fdy14o (now : Nat) (I : Nat → Int32) (F : Nat → Nat → Int32) (f gr : Nat) (hg : ix (gradI F f (nI now)) = gr) (hg4 : gr < 4) (q : Nat) (hq : ¬ (4 * f ≤ q ∧ q < 4 * f + 4)) : (fdy now (I, F) f).2 14 q = F 14 q := by
  unfold fdy sWash washF
  simp only
  rw [if_neg (fun z => hq z.2), run14o I F now f gr hg hg4 q hq]
theorem fdyF (now : Nat) (I : Nat → Int32) (F : Nat → Nat → Int32) (f : Nat) {k : Nat} (h : k ≠ 14) (h2 : k ≠ 15) : (fdy now (I, F) f).2 k = F k := by
  unfold fdy
  rw [sWash_F _ _ _ _ h, sRuns_F _ _ _ _ h h2]
theorem fdy15 (now : Nat) (I : Nat → Int32) (F : Nat → Nat → Int32) (f q : Nat) : (fdy now (I, F) f).2 15 q = if q = f then F 15 f + (rnN F now f - rnC F now f) else F 15 q := by
  unfold fdy
  rw [sWash_F _ _ _ _ (by decide), sRuns_eq]
  simp [setA_e]
theorem fdyI (now : Nat) (I : Nat → Int32) (F : Nat → Nat → Int32) (f : Nat) {k : Nat} (h : k ≠ 26) (h2 : k ≠ 27) (h3 : k ≠ 28) : (fdy now (I, F) f).1 k = I k := by
  unfold fdy
  rw [sWash_I _ _ _ _ h3, sRuns_I _ _ _ _ h h2]
theorem fdy26 (now : Nat) (I : Nat → Int32) (F : Nat → Nat → Int32) (f : Nat) : (fdy now (I, F) f).1 26 = I 26 + rnN F now f := by
  unfold fdy
  rw [sWash_I _ _ _ _ (by decide), sRuns_eq]
  simp [va_up]
theorem fdy27 (now : Nat) (I : Nat → Int32) (F : Nat → Nat → Int32) (f : Nat) : (fdy now (I, F) f).1 27 = I 27 + (rnN F now f - rnC F now f) := by
  unfold fdy
  rw [sWash_I _ _ _ _ (by decide), sRuns_eq]
  simp [va_up]
theorem fdy28 (now : Nat) (I : Nat → Int32) (F : Nat → Nat → Int32) (f gr : Nat) (hg : ix (gradI F f (nI now)) = gr) (hg4 : gr < 4) : (fdy now (I, F) f).1 28 = I 28 + waS (rv F f gr (rnC F now f)) (F 2 now) := by
  unfold fdy sWash
  simp only
  rw [up_k, sRuns_I _ _ _ _ (by decide) (by decide)]
  unfold waS
  congr 1
  refine ls_cg 4 (fun g hg => ?_)
  rw [run14 I F now f gr (by assumption) hg4 g hg, sRuns_F _ _ _ _ (by decide) (by decide)]
