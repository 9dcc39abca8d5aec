
/-! BARRELS: the first one of a wood that isn't full; filling -/
def fstB (F : Nat → Nat → Int32) (w : Int32) : Nat → Nat → Nat
  | 0, b => b
  | n + 1, b => if F 17 b = w then (if fullI F b = 0 then b else fstB F w n (b + 1)) else fstB F w n (b + 1)
def opnB (F : Nat → Nat → Int32) (w : Int32) (q : Nat) : Prop := F 17 q = w ∧ fullI F q = 0
theorem fstB_spec (F : Nat → Nat → Int32) (w : Int32) : ∀ n b, b ≤ fstB F w n b ∧ fstB F w n b ≤ b + n ∧ (fstB F w n b < b + n → opnB F w (fstB F w n b)) ∧ ∀ q, b ≤ q → q < fstB F w n b → ¬ opnB F w q
  | 0, b => ⟨Nat.le_refl _, Nat.le_refl _, fun h => absurd h (by simp [fstB]), fun q h1 h2 => absurd h2 (by simp only [fstB]; omega)⟩
  | n + 1, b => by
    have ih := fstB_spec F w n (b + 1)
    unfold fstB
    by_cases h1 : F 17 b = w
    · rw [if_pos h1]
      by_cases h2 : fullI F b = 0
      · rw [if_pos h2]
        exact ⟨Nat.le_refl _, by omega, fun _ => ⟨h1, h2⟩, fun q a c => absurd c (by omega)⟩
      · rw [if_neg h2]
        refine ⟨by omega, by omega, fun h => ih.2.2.1 (by omega), fun q a c => ?_⟩
        by_cases e : q = b
        · subst e; exact fun z => h2 z.2
        · exact ih.2.2.2 q (by omega) c
    · rw [if_neg h1]
      refine ⟨by omega, by omega, fun h => ih.2.2.1 (by omega), fun q a c => ?_⟩
      by_cases e : q = b
      · subst e; exact fun z => h1 z.1
      · exact ih.2.2.2 q (by omega) c
def fillS (t g : Nat) : Nat → (Nat → Int32) → (Nat → Nat → Int32) → Int32 → MS
  | 0, I, F, _ => (I, F)
  | n + 1, I, F, a =>
    if 0 < a then
      (if fstB F (F 4 t) (ix (I 16)) 0 = ix (I 16) then
        fillS t g n (va_up I 16 (nI (ix (I 16) + 1)))
          (setA (setA (setA F 17 (ix (I 16)) (F 4 t)) 18 (4 * ix (I 16) + g) (F 18 (4 * ix (I 16) + g) + (if 1000 - hasS F (ix (I 16)) ≤ a then 1000 - hasS F (ix (I 16)) else a))) 19 (60 * ix (I 16) + t) (F 19 (60 * ix (I 16) + t) + (if 1000 - hasS F (ix (I 16)) ≤ a then 1000 - hasS F (ix (I 16)) else a)))
          (a - (if 1000 - hasS F (ix (I 16)) ≤ a then 1000 - hasS F (ix (I 16)) else a))
      else
        fillS t g n I
          (setA (setA F 18 (4 * fstB F (F 4 t) (ix (I 16)) 0 + g) (F 18 (4 * fstB F (F 4 t) (ix (I 16)) 0 + g) + (if 1000 - hasS F (fstB F (F 4 t) (ix (I 16)) 0) ≤ a then 1000 - hasS F (fstB F (F 4 t) (ix (I 16)) 0) else a))) 19 (60 * fstB F (F 4 t) (ix (I 16)) 0 + t) (F 19 (60 * fstB F (F 4 t) (ix (I 16)) 0 + t) + (if 1000 - hasS F (fstB F (F 4 t) (ix (I 16)) 0) ≤ a then 1000 - hasS F (fstB F (F 4 t) (ix (I 16)) 0) else a)))
          (a - (if 1000 - hasS F (fstB F (F 4 t) (ix (I 16)) 0) ≤ a then 1000 - hasS F (fstB F (F 4 t) (ix (I 16)) 0) else a)))
    else (I, F)
def BV (I : Nat → Int32) (F : Nat → Nat → Int32) (hs : Nat → Nat) (nB : Nat) : Prop := I 16 = nI nB ∧ nB ≤ 200 ∧ (∀ q, q < 200 → hasS F q = nI (hs q) ∧ hs q ≤ 1000) ∧ ∀ q, nB ≤ q → q < 200 → hs q = 0 ∧ F 20 q = 0 ∧ F 21 q = 0
def ctr (F : Nat → Nat → Int32) (hs : Nat → Nat) (w : Int32) (q : Nat) : Nat := if F 17 q = w then (if fullI F q = 0 then 1000 - hs q else 0) else 0
def orN (F : Nat → Nat → Int32) (hs : Nat → Nat) (w : Int32) : Nat → Nat
  | 0 => 0
  | q + 1 => orN F hs w q + ctr F hs w q
def capN (F : Nat → Nat → Int32) (hs : Nat → Nat) (w : Int32) (nB : Nat) : Nat := orN F hs w nB + 1000 * (200 - nB)
theorem orN_same {F F' : Nat → Nat → Int32} {hs hs' : Nat → Nat} {w : Int32} : ∀ n, (∀ q, q < n → ctr F' hs' w q = ctr F hs w q) → orN F' hs' w n = orN F hs w n
  | 0, _ => rfl
  | n + 1, h => by simp only [orN]; rw [orN_same n (fun q hq => h q (by omega)), h n (by omega)]
theorem orN_less {F F' : Nat → Nat → Int32} {hs hs' : Nat → Nat} {w : Int32} {b c : Nat} (hb : ctr F' hs' w b + c = ctr F hs w b) : ∀ n, b < n → (∀ q, q < n → q ≠ b → ctr F' hs' w q = ctr F hs w q) → orN F' hs' w n + c = orN F hs w n
  | 0, h, _ => absurd h (by omega)
  | n + 1, h, ho => by
    simp only [orN]
    by_cases e : n = b
    · subst e
      rw [orN_same n (fun q hq => ho q (by omega) (by omega))]
      omega
    · have := orN_less hb n (by omega) (fun q hq hn => ho q (by omega) hn)
      rw [ho n (by omega) e]
      omega
theorem orN_none {F : Nat → Nat → Int32} {hs : Nat → Nat} {w : Int32} : ∀ n, (∀ q, q < n → ¬ opnB F w q) → orN F hs w n = 0
  | 0, _ => rfl
  | n + 1, h => by
    simp only [orN]
    rw [orN_none n (fun q hq => h q (by omega))]
    unfold ctr
    by_cases a : F 17 n = w
    · rw [if_pos a, if_neg (fun z => h n (by omega) ⟨a, z⟩)]
    · rw [if_neg a]
theorem orN_in {F : Nat → Nat → Int32} {hs : Nat → Nat} {w : Int32} {b : Nat} : ∀ n, b < n → ctr F hs w b ≤ orN F hs w n
  | 0, h => absurd h (by omega)
  | n + 1, h => by
    simp only [orN]
    by_cases e : b = n
    · subst e; omega
    · have := orN_in (F := F) (hs := hs) (w := w) (b := b) n (by omega)
      omega
theorem hasS_add (F : Nat → Nat → Int32) (b g : Nat) (c : Int32) (hg : g < 4) : hasS (setA F 18 (4 * b + g) (F 18 (4 * b + g) + c)) b = hasS F b + c := by
  have key : ∀ n, l_sum (fun i => setA F 18 (4 * b + g) (F 18 (4 * b + g) + c) 18 (4 * b + i)) n = l_sum (fun i => F 18 (4 * b + i)) n + (if g < n then c else 0) := by
    intro n
    induction n with
    | zero => rfl
    | succ n ih =>
      show l_sum _ n + setA F 18 (4 * b + g) (F 18 (4 * b + g) + c) 18 (4 * b + n) = l_sum _ n + F 18 (4 * b + n) + _
      by_cases e : n = g
      · subst e
        rw [ih, if_neg (Nat.lt_irrefl n), Int32.add_zero, if_pos (Nat.lt_succ_self n), setA_e, if_pos ⟨rfl, rfl⟩, Int32.add_assoc]
      · by_cases z : g < n
        · rw [ih, if_pos z, if_pos (show g < n + 1 by omega), setA_e, if_neg (by omega), Int32.add_assoc, Int32.add_assoc, Int32.add_comm c]
        · rw [ih, if_neg z, if_neg (show ¬ g < n + 1 by omega), setA_e, if_neg (by omega), Int32.add_zero, Int32.add_zero]
  have := key 4
  rw [if_pos hg] at this
  exact this
theorem hasS_oth (F : Nat → Nat → Int32) {b q g : Nat} (c : Int32) (hg : g < 4) (h : q ≠ b) : hasS (setA F 18 (4 * b + g) c) q = hasS F q := by
  unfold hasS
  exact lsum_cong (fun i hi => by rw [setA_e, if_neg (by omega)])
theorem fullI_eq {F F' : Nat → Nat → Int32} {q : Nat} (h : hasS F' q = hasS F q) (h20 : F' 20 q = F 20 q) (h21 : F' 21 q = F 21 q) : fullI F' q = fullI F q := by
  unfold fullI
  rw [h, h20, h21]
theorem nI1000 {n : Nat} (h : n ≤ 1000) : nI n = 1000 ↔ n = 1000 := nI_eq (b := 1000) (by omega) (by decide)
/-- one filling: b is the first open barrel or a new one -/
theorem fil_step {I : Nat → Int32} {F F1 F3 : Nat → Nat → Int32} {hs : Nat → Nat} {nB nB' t g a b : Nat} {c : Nat} {I' : Nat → Int32} (hg : g < 4) (hV : BV I F hs nB) (ha : 0 < a) (hcap : a ≤ capN F hs (F 4 t) nB) (hb : b = fstB F (F 4 t) nB 0) (ht : t < 60)
    (hcase : (b = nB ∧ nB' = nB + 1 ∧ F1 = setA F 17 b (F 4 t) ∧ I' 16 = nI (nB + 1)) ∨ (¬ b = nB ∧ nB' = nB ∧ F1 = F ∧ I' 16 = nI nB)) (hc : c = if 1000 - hs b ≤ a then 1000 - hs b else a)
    (h3 : F3 = setA (setA F1 18 (4 * b + g) (F 18 (4 * b + g) + nI c)) 19 (60 * b + t) (F 19 (60 * b + t) + nI c)) :
    b < 200 ∧ 1 ≤ c ∧ c ≤ a ∧ hs b + c ≤ 1000 ∧ BV I' F3 (va_up hs b (hs b + c)) nB' ∧ capN F3 (va_up hs b (hs b + c)) (F3 4 t) nB' + c = capN F hs (F 4 t) nB := by
  obtain ⟨h16, hnB, hh, hz⟩ := hV
  obtain ⟨s1, s2, s3, s4⟩ := fstB_spec F (F 4 t) nB 0
  rw [← hb] at s1 s2 s3 s4
  have hb200 : b < 200 := by
    rcases hcase with ⟨e, -⟩ | ⟨e, -⟩
    · subst e
      have : orN F hs (F 4 t) b = 0 := orN_none b (fun q hq => s4 q (by omega) hq)
      unfold capN at hcap
      omega
    · omega
  have hopen : fullI F b = 0 := by
    rcases hcase with ⟨e, -⟩ | ⟨e, -⟩
    · subst e
      obtain ⟨z1, z2, z3⟩ := hz b (Nat.le_refl _) hb200
      unfold fullI
      rw [(hh b hb200).1, z1, z2, z3]
      decide
    · exact (s3 (by omega)).2
  have hlt : hs b < 1000 := by
    have h1 := (hh b hb200).2
    rcases Nat.lt_or_ge (hs b) 1000 with q | q
    · exact q
    · exfalso
      have e : hs b = 1000 := by omega
      unfold fullI at hopen
      rw [(hh b hb200).1, e, if_pos (show nI 1000 = (1000 : Int32) from rfl)] at hopen
      exact absurd hopen (by decide)
  have hc1 : 1 ≤ c := by rw [hc]; split <;> omega
  have hc2 : c ≤ a := by rw [hc]; split <;> omega
  have hc3 : hs b + c ≤ 1000 := by rw [hc]; split <;> omega
  have e4 : F3 4 = F 4 := by
    rw [h3, setA_n _ _ _ (by decide), setA_n _ _ _ (by decide)]
    rcases hcase with ⟨-, -, e, -⟩ | ⟨-, -, e, -⟩
    · rw [e, setA_n _ _ _ (by decide)]
    · rw [e]
  have e20 : F3 20 = F 20 := by
    rw [h3, setA_n _ _ _ (by decide), setA_n _ _ _ (by decide)]
    rcases hcase with ⟨-, -, e, -⟩ | ⟨-, -, e, -⟩
    · rw [e, setA_n _ _ _ (by decide)]
    · rw [e]
  have e21 : F3 21 = F 21 := by
    rw [h3, setA_n _ _ _ (by decide), setA_n _ _ _ (by decide)]
    rcases hcase with ⟨-, -, e, -⟩ | ⟨-, -, e, -⟩
    · rw [e, setA_n _ _ _ (by decide)]
    · rw [e]
  have e18 : F1 18 = F 18 := by
    rcases hcase with ⟨-, -, e, -⟩ | ⟨-, -, e, -⟩
    · rw [e, setA_n _ _ _ (by decide)]
    · rw [e]
  have eh1 : ∀ q, hasS F1 q = hasS F q := fun q => by unfold hasS; rw [e18]
  have ehb : hasS F3 b = hasS F b + nI c := by
    rw [h3, hasS_set _ _ _ _ (by decide), ← e18, hasS_add F1 b g (nI c) hg, eh1]
  have eho : ∀ q, q ≠ b → hasS F3 q = hasS F q := fun q hq => by
    rw [h3, hasS_set _ _ _ _ (by decide), hasS_oth F1 _ hg hq, eh1]
  have efo : ∀ q, q ≠ b → fullI F3 q = fullI F q := fun q hq => fullI_eq (eho q hq) (by rw [e20]) (by rw [e21])
  have e17o : ∀ q, q ≠ b → F3 17 q = F 17 q := fun q hq => by
    rw [h3, setA_n _ _ _ (by decide), setA_n _ _ _ (by decide)]
    rcases hcase with ⟨-, -, e, -⟩ | ⟨-, -, e, -⟩
    · rw [e, setA_e, if_neg (by omega)]
    · rw [e]
  have e17b : F3 17 b = F 4 t := by
    rw [h3, setA_n _ _ _ (by decide), setA_n _ _ _ (by decide)]
    rcases hcase with ⟨-, -, e, -⟩ | ⟨e0, -, e, -⟩
    · rw [e, setA_e, if_pos ⟨rfl, rfl⟩]
    · rw [e]; exact (s3 (by omega)).1
  have efb : (if fullI F3 b = 0 then 1000 - (hs b + c) else 0) = 1000 - (hs b + c) := by
    by_cases q : hs b + c = 1000
    · rw [q]; split <;> rfl
    · rw [if_pos]
      unfold fullI at hopen ⊢
      rw [ehb, (hh b hb200).1, nI_add, e20, e21, if_neg (fun z => q ((nI1000 hc3).mp z))]
      rw [(hh b hb200).1, if_neg (fun z => absurd ((nI1000 (by omega)).mp z) (by omega))] at hopen
      exact hopen
  have hco : ∀ q, q ≠ b → ctr F3 (va_up hs b (hs b + c)) (F 4 t) q = ctr F hs (F 4 t) q := fun q hq => by
    unfold ctr
    rw [e17o q hq, efo q hq, show va_up hs b (hs b + c) q = hs q from if_neg hq]
  have hcb : ctr F3 (va_up hs b (hs b + c)) (F 4 t) b = 1000 - (hs b + c) := by
    unfold ctr
    rw [if_pos e17b, show va_up hs b (hs b + c) b = hs b + c from if_pos rfl]
    exact efb
  refine ⟨hb200, hc1, hc2, hc3, ⟨?_, ?_, fun q hq => ?_, fun q hq1 hq2 => ?_⟩, ?_⟩
  · rcases hcase with ⟨-, e, -, e2⟩ | ⟨-, e, -, e2⟩ <;> rw [e, e2]
  · rcases hcase with ⟨e0, e, -⟩ | ⟨-, e, -⟩ <;> omega
  · by_cases e : q = b
    · subst e
      rw [show va_up hs q (hs q + c) q = hs q + c from if_pos rfl, ehb, (hh q hq).1, nI_add]
      exact ⟨rfl, hc3⟩
    · rw [show va_up hs b (hs b + c) q = hs q from if_neg e, eho q e]
      exact hh q hq
  · have hqb : q ≠ b := by rcases hcase with ⟨e0, e, -⟩ | ⟨e0, e, -⟩ <;> omega
    rw [show va_up hs b (hs b + c) q = hs q from if_neg hqb, e20, e21]
    exact hz q (by rcases hcase with ⟨e0, e, -⟩ | ⟨e0, e, -⟩ <;> omega) hq2
  · rw [e4]
    unfold capN
    rcases hcase with ⟨e0, e, -⟩ | ⟨e0, e, -⟩
    · subst e0
      rw [e]
      simp only [orN]
      rw [orN_same b (fun q hq => hco q (by omega)), hcb, (hz b (Nat.le_refl _) hb200).1]
      have := (hz b (Nat.le_refl _) hb200).1
      omega
    · rw [e]
      have hcold : ctr F hs (F 4 t) b = 1000 - hs b := by
        unfold ctr
        rw [if_pos (s3 (by omega)).1, if_pos hopen]
      have := orN_less (F := F) (F' := F3) (hs := hs) (hs' := va_up hs b (hs b + c)) (w := F 4 t) (b := b) (c := c) (by rw [hcb, hcold]; omega) nB (by omega) (fun q _ hq => hco q hq)
      omega
