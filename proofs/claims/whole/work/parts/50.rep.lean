/-! THE CLASS'S WORLD. An address for each kind and place: 0 the object, 1 2 its weather, 3 the row of woods, 4 a wood, 5 a list (0 trees, 1 barrels, 2 + t the faces of t), 6 a list's row, 7 tallies, 8 the planner, 9 its rows, 10 11 its spills, 12 a tree, 13 a face (60: the planner's), 14 its grades, 15 a barrel, 16 its grades, 17 its trees -/
abbrev YA : Type := Nat → Nat → Nat → Nat
abbrev YE : Type := Nat → Nat → Nat → Nat → Int32
def lkd (ad : YA) (i j : Nat) : Nat := if i = 0 then ad 12 j 0 else if i = 1 then ad 15 j 0 else ad 13 (i - 2) j
def gr4 (F : Nat → Nat → Int32) (f : Nat) : Nat → Int32 := fun g => if g < 4 then F 14 (4 * f + g) else 0
def bg4 (F : Nat → Nat → Int32) (b : Nat) : Nat → Int32 := fun g => if g < 4 then F 18 (4 * b + g) else 0
def bt60 (F : Nat → Nat → Int32) (b : Nat) : Nat → Int32 := fun t => if t < 60 then F 19 (60 * b + t) else 0
def ldat (ad : YA) (L : Nat → Nat) (i : Nat) : Nat → Option Nat := fun j => if j < L i then some (lkd ad i j) else none
def six (ad : YA) (k : Nat) : Nat → Option Nat := fun j => if j < 6 then some (ad k j 0) else none
def cst (G : XG) (ad : YA) (E : YE) (cp L wd bw : Nat → Nat) (lb : Nat → Option Nat) (I : Nat → Int32) (F : Nat → Nat → Int32) (k i j : Nat) : va_E := match k with
  | 0 => .inr (7, [.ref (ad 1 0 0), .ref (ad 2 0 0), .ref (ad 3 0 0), .ref (ad 5 0 0), .ref (ad 5 1 0), .ref (ad 7 0 0), .ref (ad 8 0 0), .int (I 0), .int (I 30), .int (I 29), .int (I 31), .int (I 32)])
  | 1 => .inl (G.2 2, 3650, .inl (F 1))
  | 2 => .inl (G.2 2, 3650, .inl (F 2))
  | 3 => .inl (G.2 3, 6, .inr (.inr (.inr (.inr (six ad 4)))))
  | 4 => .inr (6, [.int (nI i), .int (F 22 i), .int (F 23 i), .int (F 24 i), .int (F 25 i), va_rf ((lb i).map (fun b => ad 15 b 0))])
  | 5 => .inr (0, [.int (E 5 i 0 0), .ref (if L i = 0 then G.2 12 else ad 6 i 0), .int (nI (L i))])
  | 6 => .inl (G.2 4, cp i, .inr (.inr (.inr (.inr (ldat ad L i)))))
  | 7 => if i = 0 then .inr (4, [.int (I 26), .int (I 27), .int (I 28)]) else .inr (4, [.int (E 7 1 0 0), .int (E 7 1 0 1), .int (E 7 1 0 2)])
  | 8 => .inr (3, [.int (E 8 0 0 0), .ref (ad 9 0 0), .ref (ad 9 1 0), .ref (ad 10 0 0), .ref (ad 9 2 0), .ref (ad 9 3 0), .ref (ad 9 4 0), .ref (ad 13 60 0), .ref (ad 7 1 0), .int (E 8 0 0 1), .int (E 8 0 0 2), .int (E 8 0 0 3)])
  | 9 => .inl (G.2 (if i = 4 then 1 else 0), 6, .inl (E 9 i 0))
  | 10 => .inl (G.2 5, 6, .inr (.inr (.inr (.inr (six ad 11)))))
  | 11 => .inl (G.2 0, 20, .inl (E 11 i 0))
  | 12 => .inr (5, [.int (nI i), .ref (ad 4 (wd i) 0), .int (F 5 i * 100 + F 6 i), .int (bearI (F 7 i)), .ref (ad 5 (2 + i) 0), .int (F 8 i), .int (F 10 i)])
  | 13 => if i = 60 then .inr (2, [.int (E 13 60 0 0), .int (E 13 60 0 1), .int (E 13 60 0 2), .int (E 13 60 0 3), .int (E 13 60 0 4), .ref (ad 14 i j)]) else .inr (2, [.int (F 11 (3 * i + j)), .int (F 12 (3 * i + j)), .int (F 13 (3 * i + j)), .int (cupS F (3 * i + j)), .int (F 15 (3 * i + j)), .ref (ad 14 i j)])
  | 14 => .inl (G.2 0, 4, .inl (if i = 60 then E 14 60 0 else gr4 F (3 * i + j)))
  | 15 => .inr (1, [.ref (ad 4 (bw i) 0), .int (hasS F i), .ref (ad 16 i 0), .ref (ad 17 i 0), .int (F 20 i), .int (F 21 i)])
  | 16 => .inl (G.2 0, 4, .inl (bg4 F i))
  | _ => .inl (G.2 0, 60, .inl (bt60 F i))
/-- which cells there are -/
def lvK (L : Nat → Nat) (k i j : Nat) : Prop := match k with
  | 0 => i = 0 ∧ j = 0 | 1 => i = 0 ∧ j = 0 | 2 => i = 0 ∧ j = 0 | 3 => i = 0 ∧ j = 0
  | 4 => i < 6 ∧ j = 0
  | 5 => i < 2 + L 0 ∧ j = 0
  | 6 => i < 2 + L 0 ∧ j = 0 ∧ 0 < L i
  | 7 => i < 2 ∧ j = 0
  | 8 => i = 0 ∧ j = 0
  | 9 => i < 5 ∧ j = 0
  | 10 => i = 0 ∧ j = 0
  | 11 => i < 6 ∧ j = 0
  | 12 => i < L 0 ∧ j = 0
  | 13 => (i < L 0 ∧ j < L (2 + i)) ∨ (i = 60 ∧ j = 0)
  | 14 => (i < L 0 ∧ j < L (2 + i)) ∨ (i = 60 ∧ j = 0)
  | 15 => i < L 1 ∧ j = 0
  | 16 => i < L 1 ∧ j = 0
  | 17 => i < L 1 ∧ j = 0
  | _ => False
def Rep (G : XG) (w : XW) (ad : YA) (E : YE) (cp L wd bw : Nat → Nat) (lb : Nat → Option Nat) (I : Nat → Int32) (F : Nat → Nat → Int32) : Prop :=
  (∀ k i j, lvK L k i j → w (ad k i j) = some (cst G ad E cp L wd bw lb I F k i j)) ∧ (∀ k i j k' i' j', lvK L k i j → lvK L k' i' j' → ad k i j = ad k' i' j' → k = k' ∧ i = i' ∧ j = j') ∧ (∀ i, i < 2 + L 0 → L i ≤ cp i ∧ 1 ≤ cp i ∧ cp i ≤ 300)
/-! what always holds of the numbers -/
def IvA (now : Nat) (L : Nat → Nat) (I : Nat → Int32) (F : Nat → Nat → Int32) : Prop := I 0 = nI now ∧ now ≤ 3650 ∧ I 3 = nI (L 0) ∧ L 0 ≤ 60 ∧ ∀ j, j < 3650 → ∃ x y, F 1 j = nI x ∧ x ≤ 9 ∧ F 2 j = nI y ∧ y ≤ 9
def IvT (L wd : Nat → Nat) (F : Nat → Nat → Int32) : Prop := ∀ t, t < L 0 → F 4 t = nI (wd t) ∧ wd t < 6 ∧ (∃ x y, F 5 t = nI x ∧ x ≤ 99 ∧ F 6 t = nI y ∧ y ≤ 99) ∧ inI (F 7 t) 20 400 ∧ (F 8 t = 0 ∨ F 8 t = 1) ∧ F 9 t = nI (L (2 + t)) ∧ nI (L (2 + t)) ≤ bearI (F 7 t) ∧ L (2 + t) ≤ 3
def IvZ (L : Nat → Nat) (F : Nat → Nat → Int32) : Prop := (∀ t, L 0 ≤ t → t < 60 → F 8 t = 0 ∧ F 9 t = 0 ∧ F 10 t = 0) ∧ ∀ t i, t < 60 → i < 3 → (L 0 ≤ t ∨ L (2 + t) ≤ i) → F 11 (3 * t + i) = 0 ∧ F 15 (3 * t + i) = 0 ∧ ∀ g, g < 4 → F 14 (4 * (3 * t + i) + g) = 0
def IvF (now : Nat) (L : Nat → Nat) (F : Nat → Nat → Int32) : Prop := (∃ cg : Nat → Nat, (∀ j, j < 720 → F 14 j = nI (cg j)) ∧ ∀ f, f < 180 → c4 cg f ≤ 400) ∧ (∀ t, t < L 0 → ∀ i, i < L (2 + t) → (∃ la, F 12 (3 * t + i) = nI la ∧ la ≤ now) ∧ (∃ oy, F 13 (3 * t + i) = nI oy ∧ oy ≤ now / 365) ∧ ∃ sk, F 11 (3 * t + i) = nI sk ∧ sk ≤ 40) ∧ ∀ t, t < L 0 → ¬ F 8 t = 0 → ∀ q, q < 12 → F 14 (12 * t + q) = 0
def lbOk (L bw : Nat → Nat) (F : Nat → Nat → Int32) (i : Nat) : Option Nat → Prop
  | none => ∀ b, b < L 1 → bw b ≠ i
  | some b => b < L 1 ∧ bw b = i ∧ ∀ q, q < L 1 → q ≠ b → bw q = i → fullI F q = 1
def IvB (L bw : Nat → Nat) (lb : Nat → Option Nat) (I : Nat → Int32) (F : Nat → Nat → Int32) : Prop := ∃ hs : Nat → Nat, BV I F hs (L 1) ∧ (∀ b, b < L 1 → F 17 b = nI (bw b) ∧ bw b < 6 ∧ 0 < hs b ∧ (F 20 b = 0 ∨ F 20 b = 1) ∧ (F 21 b = 0 ∨ F 21 b = 1)) ∧ (∀ q, q < 800 → ∃ x, F 18 q = nI x ∧ x ≤ 1000) ∧ (∀ b, L 1 ≤ b → b < 200 → (∀ g, g < 4 → F 18 (4 * b + g) = 0) ∧ ∀ t, t < 60 → F 19 (60 * b + t) = 0) ∧ (∀ i, i < 6 → lbOk L bw F i (lb i)) ∧
  ∀ i, i < 6 → (∃ tk, F 24 i = nI tk ∧ tk + capN F hs (nI i) (L 1) ≤ 200000) ∧ (F 22 i = 0 ∨ F 22 i = 1) ∧ ∃ rn, F 23 i = nI rn ∧ rn ≤ 100
def Inv (now : Nat) (L wd bw : Nat → Nat) (lb : Nat → Option Nat) (I : Nat → Int32) (F : Nat → Nat → Int32) : Prop := IvA now L I F ∧ IvT L wd F ∧ IvZ L F ∧ IvF now L F ∧ IvB L bw lb I F
/-- the class's object at a, its cells among O, holds the numbers I, F -/
def CI (G : XG) (w : XW) (a : Nat) (O : Nat → Prop) (I : Nat → Int32) (F : Nat → Nat → Int32) : Prop := ∃ (ad : YA) (E : YE) (cp L wd bw : Nat → Nat) (lb : Nat → Option Nat) (now : Nat), a = ad 0 0 0 ∧ (∀ k i j, lvK L k i j → O (ad k i j)) ∧ Rep G w ad E cp L wd bw lb I F ∧ Inv now L wd bw lb I F ∧ ∀ j, E 9 4 0 j = 0
/-- a call has made u of w: the old cells that aren't the object's stand, the object's are the old ones or new -/
def Fr (w u : XW) (O O' : Nat → Prop) : Prop := (∀ y, O' y → O y ∨ w y = none) ∧ ∀ y, ¬ O y → w y ≠ none → u y = w y
section RR
variable {G : XG} {w : XW} {ad : YA} {E : YE} {cp L wd bw : Nat → Nat} {lb : Nat → Option Nat} {I : Nat → Int32} {F : Nat → Nat → Int32}
theorem Rep.root (h : Rep G w ad E cp L wd bw lb I F) : w (ad 0 0 0) = some (.inr (7, [.ref (ad 1 0 0), .ref (ad 2 0 0), .ref (ad 3 0 0), .ref (ad 5 0 0), .ref (ad 5 1 0), .ref (ad 7 0 0), .ref (ad 8 0 0), .int (I 0), .int (I 30), .int (I 29), .int (I 31), .int (I 32)])) := h.1 0 0 0 ⟨rfl, rfl⟩
theorem Rep.woods (h : Rep G w ad E cp L wd bw lb I F) : w (ad 3 0 0) = some (.inl (G.2 3, 6, .inr (.inr (.inr (.inr (six ad 4)))))) := h.1 3 0 0 ⟨rfl, rfl⟩
theorem Rep.wood (h : Rep G w ad E cp L wd bw lb I F) {i : Nat} (hi : i < 6) : w (ad 4 i 0) = some (.inr (6, [.int (nI i), .int (F 22 i), .int (F 23 i), .int (F 24 i), .int (F 25 i), va_rf ((lb i).map (fun b => ad 15 b 0))])) := h.1 4 i 0 ⟨hi, rfl⟩
theorem Rep.lst (h : Rep G w ad E cp L wd bw lb I F) {i : Nat} (hi : i < 2 + L 0) : w (ad 5 i 0) = some (.inr (0, [.int (E 5 i 0 0), .ref (if L i = 0 then G.2 12 else ad 6 i 0), .int (nI (L i))])) := h.1 5 i 0 ⟨hi, rfl⟩
theorem Rep.dat (h : Rep G w ad E cp L wd bw lb I F) {i : Nat} (hi : i < 2 + L 0) (h0 : 0 < L i) : w (if L i = 0 then G.2 12 else ad 6 i 0) = some (.inl (G.2 4, cp i, .inr (.inr (.inr (.inr (ldat ad L i)))))) := by
  rw [if_neg (by omega)]
  exact h.1 6 i 0 ⟨hi, rfl, h0⟩
theorem Rep.tree (h : Rep G w ad E cp L wd bw lb I F) {t : Nat} (ht : t < L 0) : w (ad 12 t 0) = some (.inr (5, [.int (nI t), .ref (ad 4 (wd t) 0), .int (F 5 t * 100 + F 6 t), .int (bearI (F 7 t)), .ref (ad 5 (2 + t) 0), .int (F 8 t), .int (F 10 t)])) := h.1 12 t 0 ⟨ht, rfl⟩
theorem Rep.face (h : Rep G w ad E cp L wd bw lb I F) {t i : Nat} (h60 : L 0 ≤ 60) (ht : t < L 0) (hi : i < L (2 + t)) : w (ad 13 t i) = some (.inr (2, [.int (F 11 (3 * t + i)), .int (F 12 (3 * t + i)), .int (F 13 (3 * t + i)), .int (cupS F (3 * t + i)), .int (F 15 (3 * t + i)), .ref (ad 14 t i)])) := by
  rw [h.1 13 t i (Or.inl ⟨ht, hi⟩)]
  show some (if t = 60 then _ else _) = _
  rw [if_neg (by omega)]
theorem Rep.grd (h : Rep G w ad E cp L wd bw lb I F) {t i : Nat} (h60 : L 0 ≤ 60) (ht : t < L 0) (hi : i < L (2 + t)) : w (ad 14 t i) = some (.inl (G.2 0, 4, .inl (gr4 F (3 * t + i)))) := by
  rw [h.1 14 t i (Or.inl ⟨ht, hi⟩)]
  show some (Sum.inl (G.2 0, 4, Sum.inl (if t = 60 then _ else _))) = _
  rw [if_neg (by omega)]
theorem Rep.brl (h : Rep G w ad E cp L wd bw lb I F) {b : Nat} (hb : b < L 1) : w (ad 15 b 0) = some (.inr (1, [.ref (ad 4 (bw b) 0), .int (hasS F b), .ref (ad 16 b 0), .ref (ad 17 b 0), .int (F 20 b), .int (F 21 b)])) := h.1 15 b 0 ⟨hb, rfl⟩
theorem Rep.bgr (h : Rep G w ad E cp L wd bw lb I F) {b : Nat} (hb : b < L 1) : w (ad 16 b 0) = some (.inl (G.2 0, 4, .inl (bg4 F b))) := h.1 16 b 0 ⟨hb, rfl⟩
theorem Rep.btr (h : Rep G w ad E cp L wd bw lb I F) {b : Nat} (hb : b < L 1) : w (ad 17 b 0) = some (.inl (G.2 0, 60, .inl (bt60 F b))) := h.1 17 b 0 ⟨hb, rfl⟩
theorem ldat_t (ad : YA) (L : Nat → Nat) {j : Nat} (h : j < L 0) : ldat ad L 0 j = some (ad 12 j 0) := by simp [ldat, lkd, h]
theorem ldat_b (ad : YA) (L : Nat → Nat) {j : Nat} (h : j < L 1) : ldat ad L 1 j = some (ad 15 j 0) := by simp [ldat, lkd, h]
theorem ldat_f (ad : YA) (L : Nat → Nat) {t j : Nat} (h : j < L (2 + t)) : ldat ad L (2 + t) j = some (ad 13 t j) := by simp [ldat, lkd, h, show ¬ 2 + t = 1 by omega]
end RR
