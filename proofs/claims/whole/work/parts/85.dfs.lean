/-! THE PLANNER'S SEARCH: its leaves, in their order -/
def lvs (n : Nat) : Nat → List Nat → List (List Nat)
  | 0, pre => [pre]
  | k + 1, pre => (List.range n).flatMap (fun i => if i ∈ pre then [] else lvs n k (pre ++ [i]))
def orl (n p : Nat) : List Nat := (List.range n).map (ob n p)
set_option maxRecDepth 100000 in
theorem lvs_1 : lvs 1 1 [] = (List.range (ofac 1)).map (orl 1) := by decide +kernel
set_option maxRecDepth 100000 in
theorem lvs_2 : lvs 2 2 [] = (List.range (ofac 2)).map (orl 2) := by decide +kernel
set_option maxRecDepth 100000 in
theorem lvs_3 : lvs 3 3 [] = (List.range (ofac 3)).map (orl 3) := by decide +kernel
set_option maxRecDepth 100000 in
theorem lvs_4 : lvs 4 4 [] = (List.range (ofac 4)).map (orl 4) := by decide +kernel
set_option maxRecDepth 100000 in
theorem lvs_5 : lvs 5 5 [] = (List.range (ofac 5)).map (orl 5) := by decide +kernel
set_option maxRecDepth 100000 in
theorem lvs_6 : lvs 6 6 [] = (List.range (ofac 6)).map (orl 6) := by decide +kernel
theorem lvs_all {n : Nat} (h1 : 1 ≤ n) (h6 : n ≤ 6) : lvs n n [] = (List.range (ofac n)).map (orl n) := by
  have : n = 1 ∨ n = 2 ∨ n = 3 ∨ n = 4 ∨ n = 5 ∨ n = 6 := by omega
  rcases this with rfl | rfl | rfl | rfl | rfl | rfl
  · exact lvs_1
  · exact lvs_2
  · exact lvs_3
  · exact lvs_4
  · exact lvs_5
  · exact lvs_6
/-- steps between two places -/
def pdist (a b : Nat) : Nat := wdist (a / 100) (a % 100) (b / 100) (b % 100)
/-- where one stands, how many steps, how much has run over -/
def vst (pl : Nat → Nat) (sv : Nat → Nat → Nat) (z : Nat × Nat × Nat) (i : Nat) : Nat × Nat × Nat := (pl i, z.2.1 + pdist z.1 (pl i), z.2.2 + sv i (if 19 < (z.2.1 + pdist z.1 (pl i)) / 60 then 19 else (z.2.1 + pdist z.1 (pl i)) / 60))
def vev (pl : Nat → Nat) (sv : Nat → Nat → Nat) (p0 : Nat) (o : List Nat) : Nat × Nat × Nat := o.foldl (vst pl sv) (p0, 0, 0)
theorem vev_s (pl : Nat → Nat) (sv : Nat → Nat → Nat) (p0 : Nat) (o : List Nat) (i : Nat) : vev pl sv p0 (o ++ [i]) = vst pl sv (vev pl sv p0 o) i := by
  unfold vev
  rw [List.foldl_append]
  rfl
/-- the first is to be kept before the second -/
abbrev vlt (a b : Nat × Nat × Nat) : Prop := a.2.2 < b.2.2 ∨ (a.2.2 = b.2.2 ∧ a.2.1 < b.2.1)
def vkp (ev : List Nat → Nat × Nat × Nat) (b : Option (List Nat)) (o : List Nat) : Option (List Nat) := match b with
  | none => some o
  | some q => if vlt (ev o) (ev q) then some o else some q
theorem lvs_ge (pl : Nat → Nat) (sv : Nat → Nat → Nat) (p0 n : Nat) : ∀ (k : Nat) (pre o : List Nat), o ∈ lvs n k pre → (vev pl sv p0 pre).2.1 ≤ (vev pl sv p0 o).2.1 ∧ (vev pl sv p0 pre).2.2 ≤ (vev pl sv p0 o).2.2
  | 0, pre, o, h => by
    have : o = pre := List.mem_singleton.mp h
    subst this
    exact ⟨Nat.le_refl _, Nat.le_refl _⟩
  | k + 1, pre, o, h => by
    obtain ⟨i, -, hi⟩ := List.mem_flatMap.mp h
    by_cases hp : i ∈ pre
    · rw [if_pos hp] at hi
      cases hi
    · rw [if_neg hp] at hi
      have ih := lvs_ge pl sv p0 n k (pre ++ [i]) o hi
      rw [vev_s] at ih
      have e1 : (vst pl sv (vev pl sv p0 pre) i).2.1 = (vev pl sv p0 pre).2.1 + pdist (vev pl sv p0 pre).1 (pl i) := rfl
      have e2 : (vev pl sv p0 pre).2.2 ≤ (vst pl sv (vev pl sv p0 pre) i).2.2 := Nat.le_add_right _ _
      omega
theorem vkp_stay {ev : List Nat → Nat × Nat × Nat} {q : List Nat} : ∀ {l : List (List Nat)}, (∀ o, o ∈ l → ¬ vlt (ev o) (ev q)) → l.foldl (vkp ev) (some q) = some q
  | [], _ => rfl
  | o :: l, h => by
    rw [List.foldl_cons, show vkp ev (some q) o = some q from if_neg (h o (List.mem_cons_self ..))]
    exact vkp_stay (fun o' ho => h o' (List.mem_cons_of_mem _ ho))
/-- a branch that doesn't beat the best changes nothing -/
theorem vis_cut {pl : Nat → Nat} {sv : Nat → Nat → Nat} {p0 n k : Nat} {pre q : List Nat} (h : ¬ vlt (vev pl sv p0 pre) (vev pl sv p0 q)) : (lvs n k pre).foldl (vkp (vev pl sv p0)) (some q) = some q :=
  vkp_stay (fun o ho => by
    have := lvs_ge pl sv p0 n k pre o ho
    unfold vlt at h ⊢
    omega)
/-- the best behind the branches below i -/
def vfd (ev : List Nat → Nat × Nat × Nat) (n k : Nat) (pre : List Nat) (b : Option (List Nat)) : Nat → Option (List Nat)
  | 0 => b
  | i + 1 => if i ∈ pre then vfd ev n k pre b i else (lvs n k (pre ++ [i])).foldl (vkp ev) (vfd ev n k pre b i)
theorem vfd_eq (ev : List Nat → Nat × Nat × Nat) (n k : Nat) (pre : List Nat) (b : Option (List Nat)) : ∀ i, ((List.range i).flatMap (fun i => if i ∈ pre then [] else lvs n k (pre ++ [i]))).foldl (vkp ev) b = vfd ev n k pre b i
  | 0 => rfl
  | i + 1 => by
    rw [List.range_succ, List.flatMap_append, List.foldl_append, vfd_eq ev n k pre b i]
    show List.foldl (vkp ev) _ ([i].flatMap _) = if i ∈ pre then _ else _
    rw [List.flatMap_singleton]
    by_cases h : i ∈ pre
    · rw [if_pos h, if_pos h]
      rfl
    · rw [if_neg h, if_neg h]
theorem vfd_all (ev : List Nat → Nat × Nat × Nat) (n k : Nat) (pre : List Nat) (b : Option (List Nat)) : (lvs n (k + 1) pre).foldl (vkp ev) b = vfd ev n k pre b n := vfd_eq ev n k pre b n
