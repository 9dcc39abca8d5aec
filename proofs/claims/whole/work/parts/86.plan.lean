/-! WHAT THE PLANNER'S CELLS SAY in the midst of its search -/
theorem pdist_b {a b : Nat} (ha : a ≤ 9999) (hb : b ≤ 9999) : pdist a b ≤ 198 := by
  unfold pdist wdist
  have h1 : a / 100 ≤ 99 := by omega
  have h2 : b / 100 ≤ 99 := by omega
  have h3 : a % 100 ≤ 99 := by omega
  have h4 : b % 100 ≤ 99 := by omega
  split <;> split <;> omega
theorem vev_b0 {pl : Nat → Nat} {sv : Nat → Nat → Nat} {n : Nat} (hpl : ∀ j, j < n → pl j ≤ 9999) (hsv : ∀ k, k < n → ∀ q, q < 20 → sv k q ≤ 4000) : ∀ (o : List Nat) (z : Nat × Nat × Nat), z.1 ≤ 9999 → (∀ x, x ∈ o → x < n) → (o.foldl (vst pl sv) z).1 ≤ 9999 ∧ (o.foldl (vst pl sv) z).2.1 ≤ z.2.1 + 198 * o.length ∧ (o.foldl (vst pl sv) z).2.2 ≤ z.2.2 + 4000 * o.length
  | [], z, hz, _ => ⟨hz, by simp, by simp⟩
  | i :: o, z, hz, hx => by
    have hi : i < n := hx i (List.mem_cons_self ..)
    have ih := vev_b0 hpl hsv o (vst pl sv z i) (hpl i hi) (fun x h => hx x (List.mem_cons_of_mem _ h))
    have e1 : (vst pl sv z i).2.1 ≤ z.2.1 + 198 := Nat.add_le_add_left (pdist_b hz (hpl i hi)) _
    have e2 : (vst pl sv z i).2.2 ≤ z.2.2 + 4000 := Nat.add_le_add_left (hsv i hi _ (by split <;> omega)) _
    rw [List.foldl_cons, List.length_cons]
    omega
theorem vev_b {pl : Nat → Nat} {sv : Nat → Nat → Nat} {n p0 : Nat} (hpl : ∀ j, j < n → pl j ≤ 9999) (hsv : ∀ k, k < n → ∀ q, q < 20 → sv k q ≤ 4000) (hp : p0 ≤ 9999) {o : List Nat} (ho : ∀ x, x ∈ o → x < n) : (vev pl sv p0 o).1 ≤ 9999 ∧ (vev pl sv p0 o).2.1 ≤ 198 * o.length ∧ (vev pl sv p0 o).2.2 ≤ 4000 * o.length := by
  have := vev_b0 hpl hsv o (p0, 0, 0) hp ho
  unfold vev
  simp only [Nat.zero_add] at this
  exact this
def bsE (E : YE) (n : Nat) (ev : List Nat → Nat × Nat × Nat) : Option (List Nat) → Prop
  | none => E 8 0 0 1 = 0
  | some o => E 8 0 0 1 = 1 ∧ E 8 0 0 2 = nI (ev o).2.2 ∧ E 8 0 0 3 = nI (ev o).2.1 ∧ (∀ x, x ∈ o → x < n) ∧ o.length = n ∧ ∀ j, j < n → E 9 3 0 j = nI (o.getD j 0)
def PlS (E : YE) (n : Nat) (pl : Nat → Nat) (sv : Nat → Nat → Nat) (p0 : Nat) (pre : List Nat) (b : Option (List Nat)) : Prop :=
  E 8 0 0 0 = nI n ∧ (∀ j, j < n → E 9 1 0 j = nI (pl j)) ∧ (∀ k, k < n → ∀ q, q < 20 → E 11 k 0 q = nI (sv k q)) ∧ (∀ j, j < pre.length → E 9 2 0 j = nI (pre.getD j 0)) ∧ (∀ j, E 9 4 0 j = if j ∈ pre then 1 else 0) ∧ (∀ x, x ∈ pre → x < n) ∧ bsE E n (vev pl sv p0) b
theorem bsE_c {E E' : YE} {n : Nat} {ev : List Nat → Nat × Nat × Nat} {b : Option (List Nat)} (h : bsE E n ev b) (h8 : E' 8 0 0 = E 8 0 0) (h9 : E' 9 3 0 = E 9 3 0) : bsE E' n ev b := by
  unfold bsE at h ⊢
  cases b with
  | none => rw [h8]; exact h
  | some o => simp only [h8, h9]; exact h
theorem PlS.push {E : YE} {n : Nat} {pl : Nat → Nat} {sv : Nat → Nat → Nat} {p0 : Nat} {pre : List Nat} {b : Option (List Nat)} (h : PlS E n pl sv p0 pre b) {i : Nat} (hi : i < n) : PlS (upK (upK E 9 4 (upd (E 9 4 0) i 1)) 9 2 (upd (E 9 2 0) pre.length (nI i))) n pl sv p0 (pre ++ [i]) b := by
  obtain ⟨h1, h2, h3, h4, h5, h6, h7⟩ := h
  have e8 : upK (upK E 9 4 (upd (E 9 4 0) i 1)) 9 2 (upd (E 9 2 0) pre.length (nI i)) 8 0 0 = E 8 0 0 := by rw [upK_k _ _ (by decide), upK_k _ _ (by decide)]
  have e93 : upK (upK E 9 4 (upd (E 9 4 0) i 1)) 9 2 (upd (E 9 2 0) pre.length (nI i)) 9 3 0 = E 9 3 0 := by rw [upK_i _ _ _ (by decide), upK_i _ _ _ (by decide)]
  refine ⟨by rw [e8]; exact h1, fun j hj => ?_, fun k hk q hq => ?_, fun j hj => ?_, fun j => ?_, fun x hx => ?_, bsE_c h7 e8 e93⟩
  · rw [upK_i _ _ _ (by decide), upK_i _ _ _ (by decide)]
    exact h2 j hj
  · rw [upK_k _ _ (by decide), upK_k _ _ (by decide)]
    exact h3 k hk q hq
  · rw [upK_at]
    unfold upd
    rw [List.length_append] at hj
    by_cases e : j = pre.length
    · rw [if_pos e, e, getD_last]
    · have hj2 : j < pre.length := by simp at hj; omega
      rw [if_neg e, h4 j hj2, getD_app hj2]
  · rw [upK_i _ _ _ (by decide), upK_at]
    unfold upd
    by_cases e : j = i
    · rw [if_pos e, e, if_pos (by simp)]
    · rw [if_neg e, h5 j]
      by_cases hm : j ∈ pre
      · rw [if_pos hm, if_pos (by simp [hm])]
      · rw [if_neg hm, if_neg (by simp [hm, e])]
  · rcases List.mem_append.mp hx with h | h
    · exact h6 x h
    · have : x = i := List.mem_singleton.mp h
      omega
theorem PlS.pop {E : YE} {n : Nat} {pl : Nat → Nat} {sv : Nat → Nat → Nat} {p0 : Nat} {pre : List Nat} {b : Option (List Nat)} {i : Nat} (h : PlS E n pl sv p0 (pre ++ [i]) b) (hi : i ∉ pre) : PlS (upK E 9 4 (upd (E 9 4 0) i 0)) n pl sv p0 pre b := by
  obtain ⟨h1, h2, h3, h4, h5, h6, h7⟩ := h
  have e8 : upK E 9 4 (upd (E 9 4 0) i 0) 8 0 0 = E 8 0 0 := by rw [upK_k _ _ (by decide)]
  have e93 : upK E 9 4 (upd (E 9 4 0) i 0) 9 3 0 = E 9 3 0 := by rw [upK_i _ _ _ (by decide)]
  refine ⟨by rw [e8]; exact h1, fun j hj => ?_, fun k hk q hq => ?_, fun j hj => ?_, fun j => ?_, fun x hx => h6 x (List.mem_append_left _ hx), bsE_c h7 e8 e93⟩
  · rw [upK_i _ _ _ (by decide)]
    exact h2 j hj
  · rw [upK_k _ _ (by decide)]
    exact h3 k hk q hq
  · rw [upK_i _ _ _ (by decide), h4 j (by rw [List.length_append]; omega), getD_app hj]
  · rw [upK_at]
    unfold upd
    by_cases e : j = i
    · rw [if_pos e, e, if_neg hi]
    · rw [if_neg e, h5 j]
      by_cases hm : j ∈ pre
      · rw [if_pos hm, if_pos (by simp [hm])]
      · rw [if_neg hm, if_neg (by simp [hm, e])]
def l4 (a b c d : Int32) : Nat → Int32 := fun j => if j = 0 then a else if j = 1 then b else if j = 2 then c else d
theorem PlS.keep {E : YE} {n : Nat} {pl : Nat → Nat} {sv : Nat → Nat → Nat} {p0 : Nat} {pre : List Nat} {b : Option (List Nat)} (h : PlS E n pl sv p0 pre b) (hl : pre.length = n) : PlS (upK (upK E 8 0 (l4 (nI n) 1 (nI (vev pl sv p0 pre).2.2) (nI (vev pl sv p0 pre).2.1))) 9 3 (cpf (E 9 2 0) (E 9 3 0) n)) n pl sv p0 pre (some pre) := by
  obtain ⟨h1, h2, h3, h4, h5, h6, h7⟩ := h
  have e8 : upK (upK E 8 0 (l4 (nI n) 1 (nI (vev pl sv p0 pre).2.2) (nI (vev pl sv p0 pre).2.1))) 9 3 (cpf (E 9 2 0) (E 9 3 0) n) 8 0 0 = l4 (nI n) 1 (nI (vev pl sv p0 pre).2.2) (nI (vev pl sv p0 pre).2.1) := by rw [upK_k _ _ (by decide), upK_at]
  refine ⟨by rw [e8]; rfl, fun j hj => ?_, fun k hk q hq => ?_, fun j hj => ?_, fun j => ?_, h6, ?_, ?_, ?_, h6, hl, fun j hj => ?_⟩
  · rw [upK_i _ _ _ (by decide), upK_k _ _ (by decide)]
    exact h2 j hj
  · rw [upK_k _ _ (by decide), upK_k _ _ (by decide)]
    exact h3 k hk q hq
  · rw [upK_i _ _ _ (by decide), upK_k _ _ (by decide)]
    exact h4 j hj
  · rw [upK_i _ _ _ (by decide), upK_k _ _ (by decide)]
    exact h5 j
  · rw [e8]; rfl
  · rw [e8]; rfl
  · rw [e8]; rfl
  · rw [upK_at]
    unfold cpf
    rw [if_pos hj]
    exact h4 j (by omega)
/-- what beatsBest answers -/
theorem bts {E : YE} {n : Nat} {ev : List Nat → Nat × Nat × Nat} {q : List Nat} (h : bsE E n ev (some q)) {ov st : Nat} (h1 : ov < 2 ^ 31) (h2 : st < 2 ^ 31) (h3 : (ev q).2.2 < 2 ^ 31) (h4 : (ev q).2.1 < 2 ^ 31) : (if nI ov < E 8 0 0 2 then (1 : Int32) else if nI ov = E 8 0 0 2 then (if E 8 0 0 3 ≤ nI st then 0 else 1) else 0) = if ov < (ev q).2.2 ∨ (ov = (ev q).2.2 ∧ st < (ev q).2.1) then 1 else 0 := by
  obtain ⟨-, a1, a2, -⟩ := h
  rw [a1, a2]
  by_cases c1 : ov < (ev q).2.2
  · rw [if_pos ((nI_ltI h1 h3).mpr c1), if_pos (Or.inl c1)]
  · rw [if_neg (fun z => c1 ((nI_ltI h1 h3).mp z))]
    by_cases c2 : ov = (ev q).2.2
    · rw [if_pos (by rw [c2])]
      by_cases c3 : (ev q).2.1 ≤ st
      · rw [if_pos ((nI_leI h4 h2).mpr c3), if_neg (by omega)]
      · rw [if_neg (fun z => c3 ((nI_leI h4 h2).mp z)), if_pos (Or.inr ⟨c2, by omega⟩)]
    · rw [if_neg (fun z => c2 ((nI_eq h1 h3).mp z)), if_neg (by omega)]
