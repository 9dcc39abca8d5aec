theorem Met.postI {l : Launch} {y : MethodName} {ws : List Cond} {rm : Room} {Pc : Array Value → State → Prop} {S : Type} {post post' : Int32 → S → Prop} {B : S → State → Prop} {A : Nat → Prop} {mc ms : Nat} {fr : Addr → Prop} (h : Met l y ws rm Pc (va_Qi post B A) mc ms fr) (hp : ∀ r u, post r u → post' r u) : Met l y ws rm Pc (va_Qi post' B A) mc ms fr :=
  MetFree.mono h (fun _ _ q => q) (fun _ _ _ _ _ q => q) (fun _ _ _ _ _ q => ⟨⟨q.1.1.elim fun r z => z.elim fun u z => ⟨r, u, z.1, hp r u z.2.1, z.2.2⟩, q.1.2⟩, q.2⟩)
theorem Met.postV {l : Launch} {y : MethodName} {ws : List Cond} {rm : Room} {Pc : Array Value → State → Prop} {S : Type} {post post' : S → Prop} {B : S → State → Prop} {A : Nat → Prop} {mc ms : Nat} {fr : Addr → Prop} (h : Met l y ws rm Pc (va_Qv post B A) mc ms fr) (hp : ∀ u, post u → post' u) : Met l y ws rm Pc (va_Qv post' B A) mc ms fr :=
  MetFree.mono h (fun _ _ q => q) (fun _ _ _ _ _ q => q) (fun _ _ _ _ _ q => ⟨⟨q.1.1.elim fun u z => ⟨u, z.1, hp u z.2.1, z.2.2⟩, q.1.2⟩, q.2⟩)
theorem atR_or {i : Int32} {n : Nat} {fa : Nat → Nat} {r : Option Nat} (h : atR i n fa r) : (∃ j, j < n ∧ i = nI j ∧ r = some (fa j)) ∨ ((∀ j, j < n → ¬ i = nI j) ∧ r = none) := by
  by_cases hj : ∃ j, j < n ∧ i = nI j
  · obtain ⟨j, h1, h2⟩ := hj
    exact Or.inl ⟨j, h1, h2, h.1 j h1 h2⟩
  · have hn : ∀ j, j < n → ¬ i = nI j := fun j h1 h2 => hj ⟨j, h1, h2⟩
    exact Or.inr ⟨hn, h.2 hn⟩
theorem binP {X : Int32} {j n : Nat} (hX : X = nI n) (hj : j < n) (hn : n < 2 ^ 31) : ¬ binI (nI j) 0 (X - 1) = 0 := binI_1.mpr (by rw [hX]; exact inI_pred_of hj hn)
theorem binN {v X : Int32} {n : Nat} (hX : X = nI n) (hno : ∀ j, j < n → ¬ v = nI j) (hn : n < 2 ^ 31) : binI v 0 (X - 1) = 0 := binI_0.mpr (fun h => by
  rw [hX] at h
  obtain ⟨j, h1, h2⟩ := inI_pred h hn
  exact hno j h1 h2)
theorem bin6 {j : Nat} (h : j < 6) : ¬ binI (nI j) 0 5 = 0 := binI_1.mpr (inI_of (a := 0) (b := 5) (by omega) (by omega) (by decide))
theorem bin6n {v : Int32} (hno : ∀ j, j < 6 → ¬ v = nI j) : binI v 0 5 = 0 := binI_0.mpr (fun h => by
  obtain ⟨j, -, h1, h2⟩ := inI_nat (a := 0) (b := 5) h (by decide) (by decide)
  exact hno j (by omega) h2)
/-! which numbers a cell shows -/
def agr (E E' : YE) (lb lb' : Nat → Option Nat) (I I' : Nat → Int32) (F F' : Nat → Nat → Int32) (k i j : Nat) : Prop := match k with
  | 0 => I' 0 = I 0 ∧ I' 30 = I 30 ∧ I' 29 = I 29 ∧ I' 31 = I 31 ∧ I' 32 = I 32
  | 1 => F' 1 = F 1
  | 2 => F' 2 = F 2
  | 3 => True
  | 4 => F' 22 i = F 22 i ∧ F' 23 i = F 23 i ∧ F' 24 i = F 24 i ∧ F' 25 i = F 25 i ∧ lb' i = lb i
  | 5 => E' 5 i 0 0 = E 5 i 0 0
  | 6 => True
  | 7 => if i = 0 then I' 26 = I 26 ∧ I' 27 = I 27 ∧ I' 28 = I 28 else E' 7 1 0 = E 7 1 0
  | 8 => E' 8 0 0 = E 8 0 0
  | 9 => E' 9 i 0 = E 9 i 0
  | 10 => True
  | 11 => E' 11 i 0 = E 11 i 0
  | 12 => F' 5 i = F 5 i ∧ F' 6 i = F 6 i ∧ F' 7 i = F 7 i ∧ F' 8 i = F 8 i ∧ F' 10 i = F 10 i
  | 13 => if i = 60 then E' 13 60 0 = E 13 60 0 else F' 11 (3 * i + j) = F 11 (3 * i + j) ∧ F' 12 (3 * i + j) = F 12 (3 * i + j) ∧ F' 13 (3 * i + j) = F 13 (3 * i + j) ∧ F' 15 (3 * i + j) = F 15 (3 * i + j) ∧ cupS F' (3 * i + j) = cupS F (3 * i + j)
  | 14 => if i = 60 then E' 14 60 0 = E 14 60 0 else gr4 F' (3 * i + j) = gr4 F (3 * i + j)
  | 15 => hasS F' i = hasS F i ∧ F' 20 i = F 20 i ∧ F' 21 i = F 21 i
  | 16 => bg4 F' i = bg4 F i
  | _ => bt60 F' i = bt60 F i
theorem cst_agr {G : XG} {ad : YA} {E E' : YE} {cp L wd bw : Nat → Nat} {lb lb' : Nat → Option Nat} {I I' : Nat → Int32} {F F' : Nat → Nat → Int32} {k i j : Nat} (h : agr E E' lb lb' I I' F F' k i j) : cst G ad E' cp L wd bw lb' I' F' k i j = cst G ad E cp L wd bw lb I F k i j := by
  unfold agr at h
  unfold cst
  split at h
  case h_8 => 
    by_cases hi : i = 0
    · rw [if_pos hi] at h
      obtain ⟨h1, h2, h3⟩ := h
      simp only [if_pos hi, h1, h2, h3]
    · rw [if_neg hi] at h
      simp only [if_neg hi, h]
  case h_14 =>
    by_cases hi : i = 60
    · rw [if_pos hi] at h
      simp only [if_pos hi, h]
    · rw [if_neg hi] at h
      obtain ⟨h1, h2, h3, h4, h5⟩ := h
      simp only [if_neg hi, h1, h2, h3, h4, h5]
  case h_15 =>
    by_cases hi : i = 60
    · rw [if_pos hi] at h
      simp only [if_pos hi, h]
    · rw [if_neg hi] at h
      simp only [if_neg hi, h]
  all_goals simp_all
/-- a step that leaves the cells' number and places: the cells in X have been written, the others stand -/
theorem Rep.step {G : XG} {w u : XW} {ad : YA} {E E' : YE} {cp L wd bw : Nat → Nat} {lb lb' : Nat → Option Nat} {I I' : Nat → Int32} {F F' : Nat → Nat → Int32} (h : Rep G w ad E cp L wd bw lb I F) (X : Nat → Nat → Nat → Prop) (hX : ∀ k i j, lvK L k i j → X k i j → u (ad k i j) = some (cst G ad E' cp L wd bw lb' I' F' k i j)) (hY : ∀ k i j, lvK L k i j → ¬ X k i j → u (ad k i j) = w (ad k i j) ∧ agr E E' lb lb' I I' F F' k i j) : Rep G u ad E' cp L wd bw lb' I' F' := by
  refine ⟨fun k i j hk => ?_, h.2.1, h.2.2⟩
  by_cases hx : X k i j
  · exact hX k i j hk hx
  · obtain ⟨h1, h2⟩ := hY k i j hk hx
    rw [h1, h.1 k i j hk, cst_agr h2]
theorem Rep.ne {G : XG} {w : XW} {ad : YA} {E : YE} {cp L wd bw : Nat → Nat} {lb : Nat → Option Nat} {I : Nat → Int32} {F : Nat → Nat → Int32} (h : Rep G w ad E cp L wd bw lb I F) {k i j k' i' j' : Nat} (h1 : lvK L k i j) (h2 : lvK L k' i' j') (hne : ¬ (k = k' ∧ i = i' ∧ j = j')) : ad k i j ≠ ad k' i' j' := fun e => hne (h.2.1 _ _ _ _ _ _ h1 h2 e)
