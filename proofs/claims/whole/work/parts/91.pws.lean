/-! WHAT A WALK MAY CHOOSE -/
theorem nI_lt0 {v : Nat} (h : v < 2 ^ 31) : ¬ nI v < 0 := fun e => by
  have h0 : (0 : Int32) ≤ nI v := (nI_leI (a := 0) (by decide) h).mpr (Nat.zero_le _)
  exact Int32.not_lt.mpr h0 e
theorem sh30_n {j : Nat} (h : j < 2 ^ 31) : nI j >>> ((30 : Int32) &&& 31) = nI (j / 2 ^ 30) := pk_shrN h _ 30 (by decide)
theorem chI_30 {lo hi nT : Nat} (hl : lo < 2 ^ 30) (hh : hi < 2 ^ 30) : chI (nI lo) (nI hi) nT = if okS (slT lo hi 60) nT = true then nI (slT lo hi 60).length else -1 := by
  unfold chI
  rw [if_neg (nI_lt0 (by omega)), sh30_n (by omega), if_pos (by rw [show lo / 2 ^ 30 = 0 by omega]; rfl), if_neg (nI_lt0 (by omega)), sh30_n (by omega), if_pos (by rw [show hi / 2 ^ 30 = 0 by omega]; rfl), ix_n (by omega), ix_n (by omega)]
theorem big_neg {v : Nat} (h1 : 2 ^ 31 ≤ v) (h2 : v < 2 ^ 32) : nI v < 0 := by
  rw [Int32.lt_iff_toInt_lt]
  show (nI v).toInt < 0
  have e : (nI v).toInt = ((v : Int) - 2 ^ 32) := by
    unfold nI
    rw [Int32.toInt_ofNat']
    rw [Int.bmod_def, show Int32.size = 4294967296 from rfl]
    omega
  omega
theorem chI_lo {lo nT : Nat} (h1 : 2 ^ 30 ≤ lo) (h2 : lo < 2 ^ 32) (high : Int32) : chI (nI lo) high nT = -1 := by
  unfold chI
  by_cases h : lo < 2 ^ 31
  · rw [if_neg (nI_lt0 h), sh30_n h, if_neg (fun z => by have := (nI_eq (b := 0) (by omega) (by decide)).mp z; omega)]
  · rw [if_pos (big_neg (by omega) h2)]
theorem chI_hi {hi nT : Nat} (h1 : 2 ^ 30 ≤ hi) (h2 : hi < 2 ^ 32) (low : Int32) : chI low (nI hi) nT = -1 := by
  unfold chI
  by_cases a : low < 0
  · rw [if_pos a]
  · rw [if_neg a]
    by_cases b : low >>> ((30 : Int32) &&& 31) = 0
    · rw [if_pos b]
      by_cases h : hi < 2 ^ 31
      · rw [if_neg (nI_lt0 h), sh30_n h, if_neg (fun z => by have := (nI_eq (b := 0) (by omega) (by decide)).mp z; omega)]
      · rw [if_pos (big_neg (by omega) h2)]
    · rw [if_neg b]
theorem wR_c {low high wh : Int32} {nT : Nat} (h : chI low high nT = -1) : wR low high wh nT = -1 := by
  unfold wR
  split
  · rfl
  · exact h
theorem wR_p {low high wh : Int32} {nT : Nat} (h : plcI wh = 0) : wR low high wh nT = -1 := by
  unfold wR
  rw [if_pos (by rw [← plc_eq]; exact h)]
theorem wR_y {low high wh : Int32} {nT : Nat} (h : ¬ plcI wh = 0) : wR low high wh nT = chI low high nT := by
  unfold wR
  rw [if_neg (by rw [← plc_eq]; exact h)]
/-- the planner behind the numbers below t: S are the chosen ones -/
def PwS (E : YE) (F : Nat → Nat → Int32) (now : Nat) (L : Nat → Nat) (S : List Nat) : Prop :=
  E 8 0 0 0 = nI S.length ∧ E 8 0 0 1 = 0 ∧ (∀ j, E 9 4 0 j = 0) ∧ (∀ x, x ∈ S → x < L 0) ∧ (∀ j, j < S.length → E 9 0 0 j = nI (S.getD j 0)) ∧ (∀ j, j < S.length → E 9 1 0 j = F 5 (S.getD j 0) * 100 + F 6 (S.getD j 0)) ∧ ∀ k, k < S.length → ∀ q, q < 20 → E 11 k 0 q = ovS F (S.getD k 0) now (L (2 + S.getD k 0)) q
def jnE (E : YE) (n : Nat) (nr wh : Int32) : YE := upK (upK (upK (upK E 8 0 (l4 (nI (n + 1)) (E 8 0 0 1) (E 8 0 0 2) (E 8 0 0 3))) 9 0 (upd (E 9 0 0) n nr)) 9 1 (upd (E 9 1 0) n wh)) 11 n (zrf (E 11 n 0) 20)
theorem PwS.step {E E' : YE} {F : Nat → Nat → Int32} {now : Nat} {L : Nat → Nat} {S : List Nat} (h : PwS E F now L S) {t : Nat} (ht : t < L 0) (hs : smE S.length (jnE E S.length (nI t) (F 5 t * 100 + F 6 t)) E') (hr : ∀ j, j < 20 → E' 11 S.length 0 j = jnE E S.length (nI t) (F 5 t * 100 + F 6 t) 11 S.length 0 j + ovS F t now (L (2 + t)) j) : PwS E' F now L (S ++ [t]) := by
  obtain ⟨h1, h2, h3, h4, h5, h6, h7⟩ := h
  obtain ⟨-, s8, s9, s11⟩ := hs
  have e8 : E' 8 0 0 = l4 (nI (S.length + 1)) (E 8 0 0 1) (E 8 0 0 2) (E 8 0 0 3) := by
    rw [s8]
    unfold jnE
    rw [upK_k _ _ (by decide), upK_k _ _ (by decide), upK_k _ _ (by decide), upK_at]
  have e90 : E' 9 0 0 = upd (E 9 0 0) S.length (nI t) := by
    rw [s9]
    unfold jnE
    rw [upK_k _ _ (by decide), upK_i _ _ _ (by decide), upK_at]
  have e91 : E' 9 1 0 = upd (E 9 1 0) S.length (F 5 t * 100 + F 6 t) := by
    rw [s9]
    unfold jnE
    rw [upK_k _ _ (by decide), upK_at]
  have e94 : E' 9 4 0 = E 9 4 0 := by
    rw [s9]
    unfold jnE
    rw [upK_k _ _ (by decide), upK_i _ _ _ (by decide), upK_i _ _ _ (by decide), upK_k _ _ (by decide)]
  have app : ∀ j, j < (S ++ [t]).length → j = S.length ∨ j < S.length := fun j hj => by
    rw [List.length_append] at hj
    simp at hj
    omega
  refine ⟨by rw [e8, List.length_append]; rfl, by rw [e8]; exact h2, fun j => by rw [e94]; exact h3 j, fun x hx => ?_, fun j hj => ?_, fun j hj => ?_, fun k hk q hq => ?_⟩
  · rcases List.mem_append.mp hx with h | h
    · exact h4 x h
    · have : x = t := List.mem_singleton.mp h
      omega
  · rw [e90]
    unfold upd
    rcases app j hj with e | e
    · rw [if_pos e, e, getD_last]
    · rw [if_neg (by omega), getD_app e]
      exact h5 j e
  · rw [e91]
    unfold upd
    rcases app j hj with e | e
    · rw [if_pos e, e, getD_last]
    · rw [if_neg (by omega), getD_app e]
      exact h6 j e
  · rcases app k hk with e | e
    · rw [e, getD_last, hr q hq]
      have z : jnE E S.length (nI t) (F 5 t * 100 + F 6 t) 11 S.length 0 q = 0 := by
        unfold jnE
        rw [upK_at]
        exact if_pos hq
      rw [z, Int32.zero_add]
    · rw [s11 k (by omega), getD_app e]
      have z : jnE E S.length (nI t) (F 5 t * 100 + F 6 t) 11 k 0 = E 11 k 0 := by
        unfold jnE
        rw [upK_i _ _ _ (by omega), upK_k _ _ (by decide), upK_k _ _ (by decide), upK_k _ _ (by decide)]
      rw [z]
      exact h7 k e q hq
