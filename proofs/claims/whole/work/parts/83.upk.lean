/-! WHAT THE PLANNER WRITES: cells that the document's numbers don't reach -/
def upK (E : YE) (k i : Nat) (f : Nat → Int32) : YE := fun k' i' j' => if k' = k ∧ i' = i ∧ j' = 0 then f else E k' i' j'
theorem upK_at (E : YE) (k i : Nat) (f : Nat → Int32) : upK E k i f k i 0 = f := if_pos ⟨rfl, rfl, rfl⟩
theorem upK_k (E : YE) {k i : Nat} (f : Nat → Int32) {k' : Nat} (h : k' ≠ k) (i' j' : Nat) : upK E k i f k' i' j' = E k' i' j' := if_neg fun z => h z.1
theorem upK_i (E : YE) {k i : Nat} (f : Nat → Int32) (k' : Nat) {i' : Nat} (h : i' ≠ i) (j' : Nat) : upK E k i f k' i' j' = E k' i' j' := if_neg fun z => h z.2.1
def eK (k i : Nat) : Prop := (k = 7 ∧ i = 1) ∨ k = 8 ∨ k = 9 ∨ k = 11 ∨ (k = 13 ∧ i = 60) ∨ (k = 14 ∧ i = 60)
theorem rep_cell {G : XG} {w u : XW} {ad : YA} {E : YE} {cp L wd bw : Nat → Nat} {lb : Nat → Option Nat} {I : Nat → Int32} {F : Nat → Nat → Int32} (h : Rep G w ad E cp L wd bw lb I F) (h60 : L 0 ≤ 60) {k i : Nat} (hk : lvK L k i 0) (he : eK k i) {f : Nat → Int32} (hu : u (ad k i 0) = some (cst G ad (upK E k i f) cp L wd bw lb I F k i 0)) (hf : ∀ y, y ≠ ad k i 0 → u y = w y) : Rep G u ad (upK E k i f) cp L wd bw lb I F := by
  refine h.step (fun k' i' j' => k' = k ∧ i' = i ∧ j' = 0) (fun k' i' j' _ hx => ?_) (fun k' i' j' hl hx => ⟨hf _ (h.ne hl hk hx), ?_⟩)
  · obtain ⟨rfl, rfl, rfl⟩ := hx
    exact hu
  · have key : ∀ q r, (r = k → q = i → False) → upK E k i f r q 0 = E r q 0 := fun q r hq => if_neg fun z => hq z.1 z.2.1
    unfold eK at he
    unfold agr
    split
    case h_6 => rw [key _ _ (fun z _ => by omega)]
    case h_8 =>
      by_cases hi : i' = 0
      · rw [if_pos hi]; exact ⟨rfl, rfl, rfl⟩
      · rw [if_neg hi]
        have hl : i' < 2 ∧ j' = 0 := hl
        exact key _ _ (fun z1 z2 => hx ⟨z1, by omega, hl.2⟩)
    case h_9 =>
      have hl : i' = 0 ∧ j' = 0 := hl
      exact key _ _ (fun z1 z2 => hx ⟨z1, by omega, hl.2⟩)
    case h_10 =>
      have hl : i' < 5 ∧ j' = 0 := hl
      exact key _ _ (fun z1 z2 => hx ⟨z1, z2, hl.2⟩)
    case h_12 =>
      have hl : i' < 6 ∧ j' = 0 := hl
      exact key _ _ (fun z1 z2 => hx ⟨z1, z2, hl.2⟩)
    case h_14 =>
      have hl : (i' < L 0 ∧ j' < L (2 + i')) ∨ (i' = 60 ∧ j' = 0) := hl
      by_cases hi : i' = 60
      · rw [if_pos hi]
        exact key _ _ (fun z1 z2 => hx ⟨z1, by omega, by omega⟩)
      · rw [if_neg hi]; exact ⟨rfl, rfl, rfl, rfl, rfl⟩
    case h_15 =>
      have hl : (i' < L 0 ∧ j' < L (2 + i')) ∨ (i' = 60 ∧ j' = 0) := hl
      by_cases hi : i' = 60
      · rw [if_pos hi]
        exact key _ _ (fun z1 z2 => hx ⟨z1, by omega, by omega⟩)
      · rw [if_neg hi]
    all_goals simp
theorem upW_at (f : XW) (k : Nat) (v : Option va_E) : va_up f k v k = v := if_pos rfl
theorem upW_ne (f : XW) {k j : Nat} (v : Option va_E) (h : j ≠ k) : va_up f k v j = f j := if_neg h
def l3 (a b c : Int32) : Nat → Int32 := fun j => if j = 0 then a else if j = 1 then b else c
def l5 (a b c d e : Int32) : Nat → Int32 := fun j => if j = 0 then a else if j = 1 then b else if j = 2 then c else if j = 3 then d else e
section UK
variable {G : XG} {w u : XW} {ad : YA} {E : YE} {cp L wd bw : Nat → Nat} {lb : Nat → Option Nat} {I : Nat → Int32} {F : Nat → Nat → Int32}
theorem rep_cup2 (h : Rep G w ad E cp L wd bw lb I F) (h60 : L 0 ≤ 60) {a b c d e : Int32} {f : Nat → Int32} (h1 : u (ad 13 60 0) = some (.inr (2, [.int a, .int b, .int c, .int d, .int e, .ref (ad 14 60 0)]))) (h2 : u (ad 14 60 0) = some (.inl (G.2 0, 4, .inl f))) (hf : ∀ y, y ≠ ad 13 60 0 → y ≠ ad 14 60 0 → u y = w y) : Rep G u ad (upK (upK E 13 60 (l5 a b c d e)) 14 60 f) cp L wd bw lb I F := by
  have k1 : lvK L 13 60 0 := Or.inr ⟨rfl, rfl⟩
  have k2 : lvK L 14 60 0 := Or.inr ⟨rfl, rfl⟩
  have hne : ad 13 60 0 ≠ ad 14 60 0 := h.ne k1 k2 (by decide)
  have r1 : Rep G (va_up w (ad 13 60 0) (u (ad 13 60 0))) ad (upK E 13 60 (l5 a b c d e)) cp L wd bw lb I F := rep_cell h h60 k1 (by unfold eK; omega) ((upW_at _ _ _).trans h1) (fun y hy => upW_ne _ _ hy)
  refine rep_cell r1 h60 k2 (by unfold eK; omega) (h2.trans rfl) (fun y hy => ?_)
  by_cases e1 : y = ad 13 60 0
  · rw [e1]; exact (upW_at _ _ _).symm
  · rw [upW_ne _ _ e1]; exact hf y e1 hy
theorem rep_cup3 (h : Rep G w ad E cp L wd bw lb I F) (h60 : L 0 ≤ 60) {a b c d e x y z : Int32} {f : Nat → Int32} (h1 : u (ad 13 60 0) = some (.inr (2, [.int a, .int b, .int c, .int d, .int e, .ref (ad 14 60 0)]))) (h2 : u (ad 14 60 0) = some (.inl (G.2 0, 4, .inl f))) (h3 : u (ad 7 1 0) = some (.inr (4, [.int x, .int y, .int z]))) (hf : ∀ y, y ≠ ad 13 60 0 → y ≠ ad 14 60 0 → y ≠ ad 7 1 0 → u y = w y) : Rep G u ad (upK (upK (upK E 13 60 (l5 a b c d e)) 14 60 f) 7 1 (l3 x y z)) cp L wd bw lb I F := by
  have k1 : lvK L 13 60 0 := Or.inr ⟨rfl, rfl⟩
  have k2 : lvK L 14 60 0 := Or.inr ⟨rfl, rfl⟩
  have k3 : lvK L 7 1 0 := ⟨by decide, rfl⟩
  have r1 : Rep G (va_up u (ad 7 1 0) (w (ad 7 1 0))) ad (upK (upK E 13 60 (l5 a b c d e)) 14 60 f) cp L wd bw lb I F := by
    refine rep_cup2 h h60 ((upW_ne _ _ (h.ne k1 k3 (by decide))).trans h1) ((upW_ne _ _ (h.ne k2 k3 (by decide))).trans h2) (fun y y1 y2 => ?_)
    by_cases e1 : y = ad 7 1 0
    · rw [e1]; exact upW_at _ _ _
    · rw [upW_ne _ _ e1]; exact hf y y1 y2 e1
  exact rep_cell r1 h60 k3 (by unfold eK; omega) (h3.trans rfl) (fun y hy => (upW_ne _ _ hy).symm)
theorem rep_spill (h : Rep G w ad E cp L wd bw lb I F) (h60 : L 0 ≤ 60) {s : Nat} (hs : s < 6) {f : Nat → Int32} (h1 : u (ad 11 s 0) = some (.inl (G.2 0, 20, .inl f))) (hf : ∀ y, y ≠ ad 11 s 0 → u y = w y) : Rep G u ad (upK E 11 s f) cp L wd bw lb I F :=
  rep_cell h h60 (k := 11) (i := s) ⟨hs, rfl⟩ (by unfold eK; omega) (h1.trans (by show some (Sum.inl (G.2 0, 20, Sum.inl f)) = some (Sum.inl (G.2 0, 20, Sum.inl (upK E 11 s f 11 s 0))); rw [upK_at])) hf
end UK
/-- but for the cup, the tally and the spills of s nothing has changed -/
def smE (s : Nat) (E E' : YE) : Prop := E' 5 = E 5 ∧ E' 8 = E 8 ∧ E' 9 = E 9 ∧ ∀ i, i ≠ s → E' 11 i 0 = E 11 i 0
theorem smE.refl {s : Nat} {E : YE} : smE s E E := ⟨rfl, rfl, rfl, fun _ _ => rfl⟩
theorem smE.trans {s : Nat} {E E' E'' : YE} (h : smE s E E') (h2 : smE s E' E'') : smE s E E'' := ⟨h2.1.trans h.1, h2.2.1.trans h.2.1, h2.2.2.1.trans h.2.2.1, fun i hi => (h2.2.2.2 i hi).trans (h.2.2.2 i hi)⟩
theorem smE.up {s : Nat} {E : YE} {k i : Nat} {f : Nat → Int32} (hk : k = 7 ∨ k = 13 ∨ k = 14 ∨ (k = 11 ∧ i = s)) : smE s E (upK E k i f) :=
  ⟨funext fun i' => funext fun j' => upK_k E f (by omega) i' j', funext fun i' => funext fun j' => upK_k E f (by omega) i' j', funext fun i' => funext fun j' => upK_k E f (by omega) i' j', fun i' hi => if_neg fun z => by omega⟩
