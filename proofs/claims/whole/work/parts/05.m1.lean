/-! words for the specs -/
def bi (p : Prop) [Decidable p] : Int32 := if p then 1 else 0
theorem bi_0 {p : Prop} [Decidable p] : bi p = 0 ↔ ¬ p := by unfold bi; split <;> simp_all
theorem bi_1 {p : Prop} [Decidable p] : ¬ bi p = 0 ↔ p := by unfold bi; split <;> simp_all
theorem bi_n {p : Prop} [Decidable p] : narrow .boolean (.int (bi p)) = .int (bi p) := by unfold bi; split <;> rfl
def inI (v lo hi : Int32) : Prop := ¬ v < lo ∧ ¬ hi < v
theorem inI_dec (v lo hi : Int32) : inI v lo hi ∨ ¬ inI v lo hi := Classical.em _
def binI (v lo hi : Int32) : Int32 := if v < lo then 0 else if hi < v then 0 else 1
theorem binI_0 {v lo hi : Int32} : binI v lo hi = 0 ↔ ¬ inI v lo hi := by unfold binI inI; split <;> simp_all
theorem binI_1 {v lo hi : Int32} : ¬ binI v lo hi = 0 ↔ inI v lo hi := by unfold binI inI; split <;> simp_all
theorem binI_n {v lo hi : Int32} : narrow .boolean (.int (binI v lo hi)) = .int (binI v lo hi) := by unfold binI; split <;> (try split) <;> rfl
theorem inI_nat {v : Int32} {a b : Nat} (h : inI v (nI a) (nI b)) (ha : a < 2 ^ 31) (hb : b < 2 ^ 31) : ∃ j, a ≤ j ∧ j ≤ b ∧ v = nI j := by
  obtain ⟨h1, h2⟩ := h
  have h3 : ¬ v < 0 := by
    intro q
    apply h1
    have : (0 : Int32) ≤ nI a := nI_pos' ha
    rw [Int32.lt_iff_toInt_lt] at q ⊢
    rw [Int32.le_iff_toInt_le] at this
    omega
  obtain ⟨j, hj, rfl⟩ := nI_of h3
  refine ⟨j, ?_, ?_, rfl⟩
  · exact Nat.le_of_not_lt (fun q => h1 ((nI_ltI hj ha).mpr q))
  · exact Nat.le_of_not_lt (fun q => h2 ((nI_ltI hb hj).mpr q))
theorem inI_of {j a b : Nat} (h1 : a ≤ j) (h2 : j ≤ b) (hb : b < 2 ^ 31) : inI (nI j) (nI a) (nI b) := ⟨nI_nlt h1 (by omega), nI_nlt h2 hb⟩
/-- strength of a streak, days behind it -/
def strI (d : Int32) : Int32 := if 5 ≤ d then (if 10 ≤ d then 0 else 1) else 6 - d
/-- what a cup has -/
def cupS (F : Nat → Nat → Int32) (f : Nat) : Int32 := l_sum (fun g => F 14 (4 * f + g)) 4
/-- the grade of a face on a day -/
def gradI (F : Nat → Nat → Int32) (f : Nat) (d : Int32) : Int32 := if d / 365 - F 13 f ≤ 3 then d / 365 - F 13 f else 3
/-- a barrel: what it has, whether it is full, its grade -/
def hasS (F : Nat → Nat → Int32) (b : Nat) : Int32 := l_sum (fun g => F 18 (4 * b + g)) 4
def fullI (F : Nat → Nat → Int32) (b : Nat) : Int32 := if hasS F b = 1000 then 1 else if F 20 b = 0 then (if F 21 b = 0 then 0 else 1) else 1
def gradB (F : Nat → Nat → Int32) (b : Nat) : Int32 := l_sum (fun g => nI g * F 18 (4 * b + g)) 4 / hasS F b
def apI (x0 y0 x1 y1 : Int32) : Int32 := (if x1 ≤ x0 then x0 - x1 else x1 - x0) + (if y1 ≤ y0 then y0 - y1 else y1 - y0)
def bearI (g : Int32) : Int32 := if 80 ≤ g then (if 150 ≤ g then (if 220 ≤ g then 3 else 2) else 1) else 0

set_option maxHeartbeats 4000000 in
set_option maxRecDepth 100000 in
theorem c_X7_in (l : Launch) (G : XG) (A : Nat → Prop) (w : XW) (v lo hi : Int32) : Met l yX7_in wsX7_in ({ frames := 0, cells := 0, slots := 0, locals := 0 }) (va_Pc [.int v, .int lo, .int hi] (xP G A (w))) (va_Qi (fun (r : Int32) (u : Unit) => r = binI v lo hi) (fun u t => xB G A (w) t) A) 0 0 A := by
  refine Met.ofW (cc := cX7_in) (maxL := 3) (ret := (some .boolean)) (by decide) rfl ?_
  intro p e s m args below meth c s₁ B hml hv
  obtain ⟨rfl, hK, hH, hTt⟩ := hv
  have hx := B.exec
  have hb := B.bytes
  have hr := B.returns
  have hts := atoms_spec (ws := wsX7_in) B.pre
  have hown : s.vm.findClass RX7 = some m.cls := findClass_of_methodNamed B.named
  have hlocks := B.notSynchronized
  have hl := lv_entry ([.int v, .int lo, .int hi]) (n := 3) (Nat.le_of_ble_eq_true rfl)
  rw [lg_entry_eq]
  generalize (lg_sl ([.int v, .int lo, .int hi]) ++ List.replicate (3 - (lg_sl ([.int v, .int lo, .int hi])).length) Slot.unset).toArray = ls at hl ⊢
  have hl : lv_has ls 3 [(0, .int v), (1, .int lo), (2, .int hi)] := hl
  refine lv_iload_n hx hb dX7_in_0 rfl (lv_at hl 0 rfl) ?_
  refine lv_iload_n hx hb dX7_in_1 rfl (lv_at hl 1 rfl) ?_
  refine lv_icmp_lt (tgt := 14) hx hb dX7_in_2 (by decide) (fun c2 => ?_) (fun c2 => ?_)
  · refine lv_iconst (v := 0) hx hb dX7_in_14 (by decide) ?_
    exact x_zret (v := 0) () hx hb hr hlocks (by decide) hK hH (by simp [binI, *]) dX7_in_15
  · refine lv_iload_n hx hb dX7_in_5 rfl (lv_at hl 0 rfl) ?_
    refine lv_iload_n hx hb dX7_in_6 rfl (lv_at hl 2 rfl) ?_
    refine lv_icmp_gt (tgt := 14) hx hb dX7_in_7 (by decide) (fun c7 => ?_) (fun c7 => ?_)
    · refine lv_iconst (v := 0) hx hb dX7_in_14 (by decide) ?_
      exact x_zret (v := 0) () hx hb hr hlocks (by decide) hK hH (by simp [binI, *]) dX7_in_15
    · refine lv_iconst (v := 1) hx hb dX7_in_10 (by decide) ?_
      refine lv_goto (tgt := 15) hx hb dX7_in_11 (by decide) ?_
      exact x_zret (v := 1) () hx hb hr hlocks (by decide) hK hH (by simp [binI, *]) dX7_in_15

set_option maxHeartbeats 4000000 in
set_option maxRecDepth 100000 in
theorem c_X7_strength (l : Launch) (G : XG) (A : Nat → Prop) (w : XW) (d : Int32) : Met l yX7_strength wsX7_strength ({ frames := 0, cells := 0, slots := 0, locals := 0 }) (va_Pc [.int d] (xP G A (w))) (va_Qi (fun (r : Int32) (u : Unit) => r = strI d) (fun u t => xB G A (w) t) A) 0 0 A := by
  refine Met.ofW (cc := cX7_strength) (maxL := 1) (ret := (some .int)) (by decide) rfl ?_
  intro p e s m args below meth c s₁ B hml hv
  obtain ⟨rfl, hK, hH, hTt⟩ := hv
  have hx := B.exec
  have hb := B.bytes
  have hr := B.returns
  have hts := atoms_spec (ws := wsX7_strength) B.pre
  have hown : s.vm.findClass RX7 = some m.cls := findClass_of_methodNamed B.named
  have hlocks := B.notSynchronized
  have hl := lv_entry ([.int d]) (n := 1) (Nat.le_of_ble_eq_true rfl)
  rw [lg_entry_eq]
  generalize (lg_sl ([.int d]) ++ List.replicate (1 - (lg_sl ([.int d])).length) Slot.unset).toArray = ls at hl ⊢
  have hl : lv_has ls 1 [(0, .int d)] := hl
  refine lv_iload_n hx hb dX7_strength_0 rfl (lv_at hl 0 rfl) ?_
  refine lv_iconst (v := 5) hx hb dX7_strength_1 (by decide) ?_
  refine lv_icmp_ge (tgt := 12) hx hb dX7_strength_2 (by decide) (fun c2 => ?_) (fun c2 => ?_)
  · refine lv_iload_n hx hb dX7_strength_12 rfl (lv_at hl 0 rfl) ?_
    refine lv_bipush (v := 10) hx hb dX7_strength_13 (by decide) ?_
    refine lv_icmp_ge (tgt := 22) hx hb dX7_strength_15 (by decide) (fun c15 => ?_) (fun c15 => ?_)
    · refine lv_iconst (v := 0) hx hb dX7_strength_22 (by decide) ?_
      exact x_iret (v := 0) () hx hb hr hlocks hK hH (by simp [strI, *]) dX7_strength_23
    · refine lv_iconst (v := 1) hx hb dX7_strength_18 (by decide) ?_
      refine lv_goto (tgt := 23) hx hb dX7_strength_19 (by decide) ?_
      exact x_iret (v := 1) () hx hb hr hlocks hK hH (by simp [strI, *]) dX7_strength_23
  · refine lv_bipush (v := 6) hx hb dX7_strength_5 (by decide) ?_
    refine lv_iload_n hx hb dX7_strength_7 rfl (lv_at hl 0 rfl) ?_
    refine lv_isub hx hb dX7_strength_8 ?_
    refine lv_goto (tgt := 23) hx hb dX7_strength_9 (by decide) ?_
    exact x_iret (v := 6 - d) () hx hb hr hlocks hK hH (by simp [strI, *]) dX7_strength_23

set_option maxHeartbeats 4000000 in
set_option maxRecDepth 100000 in
theorem c_X7_isWood (l : Launch) (G : XG) (A : Nat → Prop) (w : XW) (v : Int32) : Met l yX7_isWood wsX7_isWood ({ frames := 1, cells := 0, slots := 0, locals := 22 }) (va_Pc [.int v] (xP G A (w))) (va_Qi (fun (r : Int32) (u : Unit) => r = binI v 0 5) (fun u t => xB G A (w) t) A) 0 0 A := by
  refine Met.ofW (cc := cX7_isWood) (maxL := 1) (ret := (some .boolean)) (by decide) rfl ?_
  intro p e s m args below meth c s₁ B hml hv
  obtain ⟨rfl, hK, hH, hTt⟩ := hv
  have hx := B.exec
  have hb := B.bytes
  have hr := B.returns
  have hts := atoms_spec (ws := wsX7_isWood) B.pre
  have hown : s.vm.findClass RX7 = some m.cls := findClass_of_methodNamed B.named
  have hlocks := B.notSynchronized
  have hl := lv_entry ([.int v]) (n := 1) (Nat.le_of_ble_eq_true rfl)
  rw [lg_entry_eq]
  generalize (lg_sl ([.int v]) ++ List.replicate (1 - (lg_sl ([.int v])).length) Slot.unset).toArray = ls at hl ⊢
  have hl : lv_has ls 1 [(0, .int v)] := hl
  refine lv_iload_n hx hb dX7_isWood_0 rfl (lv_at hl 0 rfl) ?_
  refine lv_iconst (v := 0) hx hb dX7_isWood_1 (by decide) ?_
  refine lv_iconst (v := 5) hx hb dX7_isWood_2 (by decide) ?_
  refine x_calli (va_runS (As := [.int v, .int 0, .int 5]) (rest := []) ⟨hx, hb, hml, hown, hts⟩ (c_X7_in l G A (w) v 0 5) (va_cwS 3 hts gX7_isWood_X7_in rfl rfl rfl (by decide +kernel) ⟨Nat.le_of_ble_eq_true rfl, Nat.le_of_ble_eq_true rfl⟩) (x_preS hK hH hTt [.int v, .int 0, .int 5]) rfl rfl hl.1 rfl (lv_room (Nat.le_of_ble_eq_true rfl)) dX7_isWood_3 ⟨Nat.le_of_ble_eq_true rfl, Nat.le_of_ble_eq_true rfl⟩) hH (fun r3 u H locs hp hH => ?_)
  subst hp
  have hH : xH G A s.heap H locs (w) := hH
  exact x_zret (v := binI v 0 5) () hx hb hr hlocks (binI_n) hK hH (rfl) dX7_isWood_6

set_option maxHeartbeats 4000000 in
set_option maxRecDepth 100000 in
theorem c_X7_apart (l : Launch) (G : XG) (A : Nat → Prop) (w : XW) (x0 y0 x1 y1 : Int32) : Met l yX7_apart wsX7_apart ({ frames := 0, cells := 0, slots := 0, locals := 0 }) (va_Pc [.int x0, .int y0, .int x1, .int y1] (xP G A (w))) (va_Qi (fun (r : Int32) (u : Unit) => r = apI x0 y0 x1 y1) (fun u t => xB G A (w) t) A) 0 0 A := by
  refine Met.ofW (cc := cX7_apart) (maxL := 4) (ret := (some .int)) (by decide) rfl ?_
  intro p e s m args below meth c s₁ B hml hv
  obtain ⟨rfl, hK, hH, hTt⟩ := hv
  have hx := B.exec
  have hb := B.bytes
  have hr := B.returns
  have hts := atoms_spec (ws := wsX7_apart) B.pre
  have hown : s.vm.findClass RX7 = some m.cls := findClass_of_methodNamed B.named
  have hlocks := B.notSynchronized
  have hl := lv_entry ([.int x0, .int y0, .int x1, .int y1]) (n := 4) (Nat.le_of_ble_eq_true rfl)
  rw [lg_entry_eq]
  generalize (lg_sl ([.int x0, .int y0, .int x1, .int y1]) ++ List.replicate (4 - (lg_sl ([.int x0, .int y0, .int x1, .int y1])).length) Slot.unset).toArray = ls at hl ⊢
  have hl : lv_has ls 4 [(0, .int x0), (1, .int y0), (2, .int x1), (3, .int y1)] := hl
  refine lv_iload_n hx hb dX7_apart_0 rfl (lv_at hl 0 rfl) ?_
  refine lv_iload_n hx hb dX7_apart_1 rfl (lv_at hl 2 rfl) ?_
  refine lv_icmp_ge (tgt := 11) hx hb dX7_apart_2 (by decide) (fun c2 => ?_) (fun c2 => ?_)
  · refine lv_iload_n hx hb dX7_apart_11 rfl (lv_at hl 0 rfl) ?_
    refine lv_iload_n hx hb dX7_apart_12 rfl (lv_at hl 2 rfl) ?_
    refine lv_isub hx hb dX7_apart_13 ?_
    refine lv_iload_n hx hb dX7_apart_14 rfl (lv_at hl 1 rfl) ?_
    refine lv_iload_n hx hb dX7_apart_15 rfl (lv_at hl 3 rfl) ?_
    refine lv_icmp_ge (tgt := 25) hx hb dX7_apart_16 (by decide) (fun c16 => ?_) (fun c16 => ?_)
    · refine lv_iload_n hx hb dX7_apart_25 rfl (lv_at hl 1 rfl) ?_
      refine lv_iload_n hx hb dX7_apart_26 rfl (lv_at hl 3 rfl) ?_
      refine lv_isub hx hb dX7_apart_27 ?_
      refine lv_iadd hx hb dX7_apart_28 ?_
      exact x_iret (v := (x0 - x1) + (y0 - y1)) () hx hb hr hlocks hK hH (by simp [apI, *]) dX7_apart_29
    · refine lv_iload_n hx hb dX7_apart_19 rfl (lv_at hl 3 rfl) ?_
      refine lv_iload_n hx hb dX7_apart_20 rfl (lv_at hl 1 rfl) ?_
      refine lv_isub hx hb dX7_apart_21 ?_
      refine lv_goto (tgt := 28) hx hb dX7_apart_22 (by decide) ?_
      refine lv_iadd hx hb dX7_apart_28 ?_
      exact x_iret (v := (x0 - x1) + (y1 - y0)) () hx hb hr hlocks hK hH (by simp [apI, *]) dX7_apart_29
  · refine lv_iload_n hx hb dX7_apart_5 rfl (lv_at hl 2 rfl) ?_
    refine lv_iload_n hx hb dX7_apart_6 rfl (lv_at hl 0 rfl) ?_
    refine lv_isub hx hb dX7_apart_7 ?_
    refine lv_goto (tgt := 14) hx hb dX7_apart_8 (by decide) ?_
    refine lv_iload_n hx hb dX7_apart_14 rfl (lv_at hl 1 rfl) ?_
    refine lv_iload_n hx hb dX7_apart_15 rfl (lv_at hl 3 rfl) ?_
    refine lv_icmp_ge (tgt := 25) hx hb dX7_apart_16 (by decide) (fun c16 => ?_) (fun c16 => ?_)
    · refine lv_iload_n hx hb dX7_apart_25 rfl (lv_at hl 1 rfl) ?_
      refine lv_iload_n hx hb dX7_apart_26 rfl (lv_at hl 3 rfl) ?_
      refine lv_isub hx hb dX7_apart_27 ?_
      refine lv_iadd hx hb dX7_apart_28 ?_
      exact x_iret (v := (x1 - x0) + (y0 - y1)) () hx hb hr hlocks hK hH (by simp [apI, *]) dX7_apart_29
    · refine lv_iload_n hx hb dX7_apart_19 rfl (lv_at hl 3 rfl) ?_
      refine lv_iload_n hx hb dX7_apart_20 rfl (lv_at hl 1 rfl) ?_
      refine lv_isub hx hb dX7_apart_21 ?_
      refine lv_goto (tgt := 28) hx hb dX7_apart_22 (by decide) ?_
      refine lv_iadd hx hb dX7_apart_28 ?_
      exact x_iret (v := (x1 - x0) + (y1 - y0)) () hx hb hr hlocks hK hH (by simp [apI, *]) dX7_apart_29

set_option maxHeartbeats 4000000 in
set_option maxRecDepth 100000 in
theorem c_X7_isTree (l : Launch) (G : XG) (A : Nat → Prop) (ρ : Nat → Option Nat) (ad : Nat → Nat) (b : XW) (I : Nat → Int32) (F : Nat → Nat → Int32) (hρ : mA ρ ad) (t : Int32) : Met l yX7_isTree wsX7_isTree ({ frames := 1, cells := 0, slots := 0, locals := 22 }) (va_Pc [.ref (ad 0), .int t] (xP G A (mw G ρ ad b I F))) (va_Qi (fun (r : Int32) (u : (Nat → Int32) × (Nat → Nat → Int32)) => r = binI t 0 (I 3 - 1) ∧ u = (I, F)) (fun u t => xB G A (mw G ρ ad b u.1 u.2) t) A) 0 0 A := by
  refine Met.ofW (cc := cX7_isTree) (maxL := 2) (ret := (some .boolean)) (by decide) rfl ?_
  intro p e s m args below meth c s₁ B hml hv
  obtain ⟨rfl, hK, hH, hTt⟩ := hv
  have hx := B.exec
  have hb := B.bytes
  have hr := B.returns
  have hts := atoms_spec (ws := wsX7_isTree) B.pre
  have hown : s.vm.findClass RX7 = some m.cls := findClass_of_methodNamed B.named
  have hlocks := B.notSynchronized
  have hiX7 : ∀ w ∈ wsX70, w ∈ wsX7_isTree := by decide +kernel
  have hf92 := hts (.fieldLink RX7 92 "ResinWoodsModel" "trees" "I") (by decide +kernel)
  have hl := lv_entry ([.ref (ad 0), .int t]) (n := 2) (Nat.le_of_ble_eq_true rfl)
  rw [lg_entry_eq]
  generalize (lg_sl ([.ref (ad 0), .int t]) ++ List.replicate (2 - (lg_sl ([.ref (ad 0), .int t])).length) Slot.unset).toArray = ls at hl ⊢
  have hl : lv_has ls 2 [(0, .ref (ad 0)), (1, .int t)] := hl
  refine lv_iload_n hx hb dX7_isTree_0 rfl (lv_at hl 1 rfl) ?_
  refine lv_iconst (v := 0) hx hb dX7_isTree_1 (by decide) ?_
  refine lv_aload_n hx hb dX7_isTree_2 rfl (lv_at hl 0 rfl) ?_
  refine M_get hx hb hts hiX7 hown hK hρ hH 3 (by decide) hf92 (v := .int (I 3)) rfl dX7_isTree_3 ?_
  refine lv_iconst (v := 1) hx hb dX7_isTree_6 (by decide) ?_
  refine lv_isub hx hb dX7_isTree_7 ?_
  refine x_calli (va_runS (As := [.int t, .int 0, .int ((I 3) - 1)]) (rest := []) ⟨hx, hb, hml, hown, hts⟩ (c_X7_in l G A (mw G ρ ad b I F) t 0 ((I 3) - 1)) (va_cwS 3 hts gX7_isTree_X7_in rfl rfl rfl (by decide +kernel) ⟨Nat.le_of_ble_eq_true rfl, Nat.le_of_ble_eq_true rfl⟩) (x_preS hK hH hTt [.int t, .int 0, .int ((I 3) - 1)]) rfl rfl hl.1 rfl (lv_room (Nat.le_of_ble_eq_true rfl)) dX7_isTree_8 ⟨Nat.le_of_ble_eq_true rfl, Nat.le_of_ble_eq_true rfl⟩) hH (fun r8 u H locs hp hH => ?_)
  subst hp
  have hH : xH G A s.heap H locs (mw G ρ ad b I F) := hH
  exact x_zret (v := binI t 0 ((I 3) - 1)) (I, F) hx hb hr hlocks (binI_n) hK hH (⟨rfl, rfl⟩) dX7_isTree_11

set_option maxHeartbeats 4000000 in
set_option maxRecDepth 100000 in
theorem c_X7_isBarrel (l : Launch) (G : XG) (A : Nat → Prop) (ρ : Nat → Option Nat) (ad : Nat → Nat) (b : XW) (I : Nat → Int32) (F : Nat → Nat → Int32) (hρ : mA ρ ad) (t : Int32) : Met l yX7_isBarrel wsX7_isBarrel ({ frames := 1, cells := 0, slots := 0, locals := 22 }) (va_Pc [.ref (ad 0), .int t] (xP G A (mw G ρ ad b I F))) (va_Qi (fun (r : Int32) (u : (Nat → Int32) × (Nat → Nat → Int32)) => r = binI t 0 (I 16 - 1) ∧ u = (I, F)) (fun u t => xB G A (mw G ρ ad b u.1 u.2) t) A) 0 0 A := by
  refine Met.ofW (cc := cX7_isBarrel) (maxL := 2) (ret := (some .boolean)) (by decide) rfl ?_
  intro p e s m args below meth c s₁ B hml hv
  obtain ⟨rfl, hK, hH, hTt⟩ := hv
  have hx := B.exec
  have hb := B.bytes
  have hr := B.returns
  have hts := atoms_spec (ws := wsX7_isBarrel) B.pre
  have hown : s.vm.findClass RX7 = some m.cls := findClass_of_methodNamed B.named
  have hlocks := B.notSynchronized
  have hiX7 : ∀ w ∈ wsX70, w ∈ wsX7_isBarrel := by decide +kernel
  have hf143 := hts (.fieldLink RX7 143 "ResinWoodsModel" "barrels" "I") (by decide +kernel)
  have hl := lv_entry ([.ref (ad 0), .int t]) (n := 2) (Nat.le_of_ble_eq_true rfl)
  rw [lg_entry_eq]
  generalize (lg_sl ([.ref (ad 0), .int t]) ++ List.replicate (2 - (lg_sl ([.ref (ad 0), .int t])).length) Slot.unset).toArray = ls at hl ⊢
  have hl : lv_has ls 2 [(0, .ref (ad 0)), (1, .int t)] := hl
  refine lv_iload_n hx hb dX7_isBarrel_0 rfl (lv_at hl 1 rfl) ?_
  refine lv_iconst (v := 0) hx hb dX7_isBarrel_1 (by decide) ?_
  refine lv_aload_n hx hb dX7_isBarrel_2 rfl (lv_at hl 0 rfl) ?_
  refine M_get hx hb hts hiX7 hown hK hρ hH 16 (by decide) hf143 (v := .int (I 16)) rfl dX7_isBarrel_3 ?_
  refine lv_iconst (v := 1) hx hb dX7_isBarrel_6 (by decide) ?_
  refine lv_isub hx hb dX7_isBarrel_7 ?_
  refine x_calli (va_runS (As := [.int t, .int 0, .int ((I 16) - 1)]) (rest := []) ⟨hx, hb, hml, hown, hts⟩ (c_X7_in l G A (mw G ρ ad b I F) t 0 ((I 16) - 1)) (va_cwS 3 hts gX7_isBarrel_X7_in rfl rfl rfl (by decide +kernel) ⟨Nat.le_of_ble_eq_true rfl, Nat.le_of_ble_eq_true rfl⟩) (x_preS hK hH hTt [.int t, .int 0, .int ((I 16) - 1)]) rfl rfl hl.1 rfl (lv_room (Nat.le_of_ble_eq_true rfl)) dX7_isBarrel_8 ⟨Nat.le_of_ble_eq_true rfl, Nat.le_of_ble_eq_true rfl⟩) hH (fun r8 u H locs hp hH => ?_)
  subst hp
  have hH : xH G A s.heap H locs (mw G ρ ad b I F) := hH
  exact x_zret (v := binI t 0 ((I 16) - 1)) (I, F) hx hb hr hlocks (binI_n) hK hH (⟨rfl, rfl⟩) dX7_isBarrel_11

set_option maxHeartbeats 4000000 in
set_option maxRecDepth 100000 in
theorem c_X7_inCup (l : Launch) (G : XG) (A : Nat → Prop) (ρ : Nat → Option Nat) (ad : Nat → Nat) (b : XW) (I : Nat → Int32) (F : Nat → Nat → Int32) (hρ : mA ρ ad) (f : Nat) (hf : f < 180) : Met l yX7_inCup wsX7_inCup ({ frames := 0, cells := 0, slots := 0, locals := 0 }) (va_Pc [.ref (ad 0), .int (nI f)] (xP G A (mw G ρ ad b I F))) (va_Qi (fun (r : Int32) (u : (Nat → Int32) × (Nat → Nat → Int32)) => r = cupS F f ∧ u = (I, F)) (fun u t => xB G A (mw G ρ ad b u.1 u.2) t) A) 0 0 A := by
  refine Met.ofW (cc := cX7_inCup) (maxL := 4) (ret := (some .int)) (by decide) rfl ?_
  intro p e s m args below meth c s₁ B hml hv
  obtain ⟨rfl, hK, hH, hTt⟩ := hv
  have hx := B.exec
  have hb := B.bytes
  have hr := B.returns
  have hts := atoms_spec (ws := wsX7_inCup) B.pre
  have hown : s.vm.findClass RX7 = some m.cls := findClass_of_methodNamed B.named
  have hlocks := B.notSynchronized
  have hiX7 : ∀ w ∈ wsX70, w ∈ wsX7_inCup := by decide +kernel
  have hf47 := hts (.fieldLink RX7 47 "ResinWoodsModel" "cups" "[I") (by decide +kernel)
  have hl := lv_entry ([.ref (ad 0), .int (nI f)]) (n := 4) (Nat.le_of_ble_eq_true rfl)
  rw [lg_entry_eq]
  generalize (lg_sl ([.ref (ad 0), .int (nI f)]) ++ List.replicate (4 - (lg_sl ([.ref (ad 0), .int (nI f)])).length) Slot.unset).toArray = ls at hl ⊢
  have hl : lv_has ls 4 [(0, .ref (ad 0)), (1, .int (nI f))] := hl
  refine lv_iconst (v := 0) hx hb dX7_inCup_0 (by decide) ?_
  refine lv_istore_n (lv' := [(2, .int 0), (0, .ref (ad 0)), (1, .int (nI f))]) hx hb dX7_inCup_1 rfl hl (by decide) rfl (fun ls hl => ?_)
  refine lv_iconst (v := 0) hx hb dX7_inCup_2 (by decide) ?_
  refine lv_istore_n (lv' := [(3, .int 0), (2, .int 0), (0, .ref (ad 0)), (1, .int (nI f))]) hx hb dX7_inCup_3 rfl hl (by decide) rfl (fun ls hl => ?_)
  suffices loop4 : ∀ (k4 : Nat) (g : Nat) (acc : Int32), (4 < g + k4) → (g ≤ 4) → (acc = l_sum (fun g => F 14 (4 * f + g)) g) → ∀ (H : Heap) (locs : List Loc), xH G A s.heap H locs (mw G ρ ad b I F) → ∀ (ls : Array Slot), lv_has ls 4 [(0, .ref (ad 0)), (1, .int (nI f)), (2, .int acc), (3, .int (nI g))] → W p l e (headSpec wsX7_inCup _).room s m _ below meth c H locs 0 0 (MQ below _ _ s 0 0 A) (F0 m 4 ls []) from
    loop4 5 0 0 (by omega) (by omega) (rfl) _ _ hH ls (lv_sub hl [2, 3, 1, 0] rfl)
  intro k4
  induction k4 with
  | zero =>
    intro g acc hfuel hg ha H locs hH ls hl
    exact absurd hfuel (by omega)
  | succ k4 ih4 =>
    intro g acc hfuel hg ha H locs hH ls hl
    refine lv_iload_n hx hb dX7_inCup_4 rfl (lv_at hl 3 rfl) ?_
    refine lv_iconst (v := 4) hx hb dX7_inCup_5 (by decide) ?_
    refine lv_icmp_ge (tgt := 28) hx hb dX7_inCup_6 (by decide) (fun c6 => ?_) (fun c6 => ?_)
    · have c6 : 4 ≤ g := (nI_leI (a := 4) (b := g) (by omega) (by omega)).mp c6
      refine lv_iload_n hx hb dX7_inCup_28 rfl (lv_at hl 2 rfl) ?_
      exact x_iret (v := acc) (I, F) hx hb hr hlocks hK hH (⟨by rw [ha, show g = 4 by omega]; rfl, rfl⟩) dX7_inCup_29
    · have c6 : ¬ 4 ≤ g := fun zz => c6 ((nI_leI (a := 4) (b := g) (by omega) (by omega)).mpr zz)
      refine lv_iload_n hx hb dX7_inCup_9 rfl (lv_at hl 2 rfl) ?_
      refine lv_aload_n hx hb dX7_inCup_10 rfl (lv_at hl 0 rfl) ?_
      refine M_get hx hb hts hiX7 hown hK hρ hH 14 (by decide) hf47 (v := .ref (ad 14)) rfl dX7_inCup_11 ?_
      refine lv_iconst (v := 4) hx hb dX7_inCup_14 (by decide) ?_
      refine lv_iload_n hx hb dX7_inCup_15 rfl (lv_at hl 1 rfl) ?_
      refine N_imul hx hb 4 f rfl rfl dX7_inCup_16 ?_
      refine lv_iload_n hx hb dX7_inCup_17 rfl (lv_at hl 3 rfl) ?_
      refine N_iadd hx hb (4 * f) g rfl rfl dX7_inCup_18 ?_
      refine M_iald hx hb hK hρ hH 14 720 (by decide) ((4 * f) + g) rfl (by omega) dX7_inCup_19 ?_
      refine lv_iadd hx hb dX7_inCup_20 ?_
      refine lv_topi (fun v21 ev21 => ?_)
      refine lv_istore_n (lv' := [(2, .int v21), (0, .ref (ad 0)), (1, .int (nI f)), (3, .int (nI g))]) hx hb dX7_inCup_21 rfl hl (by decide) rfl (fun ls hl => ?_)
      refine lv_iinc (v := nI (g + 1)) (lv' := [(3, .int (nI (g + 1))), (2, .int v21), (0, .ref (ad 0)), (1, .int (nI f))]) hx hb dX7_inCup_22 hl (k := 3) rfl (by exact nI_add _ 1) (by decide) rfl (fun ls hl => ?_)
      refine lv_goto (tgt := 4) hx hb dX7_inCup_25 (by decide) ?_
      exact ih4 (g + 1) v21 (by omega) (by omega) (by rw [ev21, ha]; rfl) _ _ hH ls (lv_sub hl [2, 3, 1, 0] rfl)

set_option maxHeartbeats 4000000 in
set_option maxRecDepth 100000 in
theorem c_X7_has (l : Launch) (G : XG) (A : Nat → Prop) (ρ : Nat → Option Nat) (ad : Nat → Nat) (b : XW) (I : Nat → Int32) (F : Nat → Nat → Int32) (hρ : mA ρ ad) (f : Nat) (hf : f < 200) : Met l yX7_has wsX7_has ({ frames := 0, cells := 0, slots := 0, locals := 0 }) (va_Pc [.ref (ad 0), .int (nI f)] (xP G A (mw G ρ ad b I F))) (va_Qi (fun (r : Int32) (u : (Nat → Int32) × (Nat → Nat → Int32)) => r = hasS F f ∧ u = (I, F)) (fun u t => xB G A (mw G ρ ad b u.1 u.2) t) A) 0 0 A := by
  refine Met.ofW (cc := cX7_has) (maxL := 4) (ret := (some .int)) (by decide) rfl ?_
  intro p e s m args below meth c s₁ B hml hv
  obtain ⟨rfl, hK, hH, hTt⟩ := hv
  have hx := B.exec
  have hb := B.bytes
  have hr := B.returns
  have hts := atoms_spec (ws := wsX7_has) B.pre
  have hown : s.vm.findClass RX7 = some m.cls := findClass_of_methodNamed B.named
  have hlocks := B.notSynchronized
  have hiX7 : ∀ w ∈ wsX70, w ∈ wsX7_has := by decide +kernel
  have hf56 := hts (.fieldLink RX7 56 "ResinWoodsModel" "barrelHas" "[I") (by decide +kernel)
  have hl := lv_entry ([.ref (ad 0), .int (nI f)]) (n := 4) (Nat.le_of_ble_eq_true rfl)
  rw [lg_entry_eq]
  generalize (lg_sl ([.ref (ad 0), .int (nI f)]) ++ List.replicate (4 - (lg_sl ([.ref (ad 0), .int (nI f)])).length) Slot.unset).toArray = ls at hl ⊢
  have hl : lv_has ls 4 [(0, .ref (ad 0)), (1, .int (nI f))] := hl
  refine lv_iconst (v := 0) hx hb dX7_has_0 (by decide) ?_
  refine lv_istore_n (lv' := [(2, .int 0), (0, .ref (ad 0)), (1, .int (nI f))]) hx hb dX7_has_1 rfl hl (by decide) rfl (fun ls hl => ?_)
  refine lv_iconst (v := 0) hx hb dX7_has_2 (by decide) ?_
  refine lv_istore_n (lv' := [(3, .int 0), (2, .int 0), (0, .ref (ad 0)), (1, .int (nI f))]) hx hb dX7_has_3 rfl hl (by decide) rfl (fun ls hl => ?_)
  suffices loop4 : ∀ (k4 : Nat) (g : Nat) (acc : Int32), (4 < g + k4) → (g ≤ 4) → (acc = l_sum (fun g => F 18 (4 * f + g)) g) → ∀ (H : Heap) (locs : List Loc), xH G A s.heap H locs (mw G ρ ad b I F) → ∀ (ls : Array Slot), lv_has ls 4 [(0, .ref (ad 0)), (1, .int (nI f)), (2, .int acc), (3, .int (nI g))] → W p l e (headSpec wsX7_has _).room s m _ below meth c H locs 0 0 (MQ below _ _ s 0 0 A) (F0 m 4 ls []) from
    loop4 5 0 0 (by omega) (by omega) (rfl) _ _ hH ls (lv_sub hl [2, 3, 1, 0] rfl)
  intro k4
  induction k4 with
  | zero =>
    intro g acc hfuel hg ha H locs hH ls hl
    exact absurd hfuel (by omega)
  | succ k4 ih4 =>
    intro g acc hfuel hg ha H locs hH ls hl
    refine lv_iload_n hx hb dX7_has_4 rfl (lv_at hl 3 rfl) ?_
    refine lv_iconst (v := 4) hx hb dX7_has_5 (by decide) ?_
    refine lv_icmp_ge (tgt := 28) hx hb dX7_has_6 (by decide) (fun c6 => ?_) (fun c6 => ?_)
    · have c6 : 4 ≤ g := (nI_leI (a := 4) (b := g) (by omega) (by omega)).mp c6
      refine lv_iload_n hx hb dX7_has_28 rfl (lv_at hl 2 rfl) ?_
      exact x_iret (v := acc) (I, F) hx hb hr hlocks hK hH (⟨by rw [ha, show g = 4 by omega]; rfl, rfl⟩) dX7_has_29
    · have c6 : ¬ 4 ≤ g := fun zz => c6 ((nI_leI (a := 4) (b := g) (by omega) (by omega)).mpr zz)
      refine lv_iload_n hx hb dX7_has_9 rfl (lv_at hl 2 rfl) ?_
      refine lv_aload_n hx hb dX7_has_10 rfl (lv_at hl 0 rfl) ?_
      refine M_get hx hb hts hiX7 hown hK hρ hH 18 (by decide) hf56 (v := .ref (ad 18)) rfl dX7_has_11 ?_
      refine lv_iconst (v := 4) hx hb dX7_has_14 (by decide) ?_
      refine lv_iload_n hx hb dX7_has_15 rfl (lv_at hl 1 rfl) ?_
      refine N_imul hx hb 4 f rfl rfl dX7_has_16 ?_
      refine lv_iload_n hx hb dX7_has_17 rfl (lv_at hl 3 rfl) ?_
      refine N_iadd hx hb (4 * f) g rfl rfl dX7_has_18 ?_
      refine M_iald hx hb hK hρ hH 18 800 (by decide) ((4 * f) + g) rfl (by omega) dX7_has_19 ?_
      refine lv_iadd hx hb dX7_has_20 ?_
      refine lv_topi (fun v21 ev21 => ?_)
      refine lv_istore_n (lv' := [(2, .int v21), (0, .ref (ad 0)), (1, .int (nI f)), (3, .int (nI g))]) hx hb dX7_has_21 rfl hl (by decide) rfl (fun ls hl => ?_)
      refine lv_iinc (v := nI (g + 1)) (lv' := [(3, .int (nI (g + 1))), (2, .int v21), (0, .ref (ad 0)), (1, .int (nI f))]) hx hb dX7_has_22 hl (k := 3) rfl (by exact nI_add _ 1) (by decide) rfl (fun ls hl => ?_)
      refine lv_goto (tgt := 4) hx hb dX7_has_25 (by decide) ?_
      exact ih4 (g + 1) v21 (by omega) (by omega) (by rw [ev21, ha]; rfl) _ _ hH ls (lv_sub hl [2, 3, 1, 0] rfl)

set_option maxHeartbeats 4000000 in
set_option maxRecDepth 100000 in
theorem c_X7_gradeOf (l : Launch) (G : XG) (A : Nat → Prop) (ρ : Nat → Option Nat) (ad : Nat → Nat) (b : XW) (I : Nat → Int32) (F : Nat → Nat → Int32) (hρ : mA ρ ad) (f : Nat) (d : Int32) (hf : f < 180) : Met l yX7_gradeOf wsX7_gradeOf ({ frames := 0, cells := 0, slots := 0, locals := 0 }) (va_Pc [.ref (ad 0), .int (nI f), .int d] (xP G A (mw G ρ ad b I F))) (va_Qi (fun (r : Int32) (u : (Nat → Int32) × (Nat → Nat → Int32)) => r = gradI F f d ∧ u = (I, F)) (fun u t => xB G A (mw G ρ ad b u.1 u.2) t) A) 0 0 A := by
  refine Met.ofW (cc := cX7_gradeOf) (maxL := 4) (ret := (some .int)) (by decide) rfl ?_
  intro p e s m args below meth c s₁ B hml hv
  obtain ⟨rfl, hK, hH, hTt⟩ := hv
  have hx := B.exec
  have hb := B.bytes
  have hr := B.returns
  have hts := atoms_spec (ws := wsX7_gradeOf) B.pre
  have hown : s.vm.findClass RX7 = some m.cls := findClass_of_methodNamed B.named
  have hlocks := B.notSynchronized
  have hiX7 : ∀ w ∈ wsX70, w ∈ wsX7_gradeOf := by decide +kernel
  have hf44 := hts (.fieldLink RX7 44 "ResinWoodsModel" "openYear" "[I") (by decide +kernel)
  have hl := lv_entry ([.ref (ad 0), .int (nI f), .int d]) (n := 4) (Nat.le_of_ble_eq_true rfl)
  rw [lg_entry_eq]
  generalize (lg_sl ([.ref (ad 0), .int (nI f), .int d]) ++ List.replicate (4 - (lg_sl ([.ref (ad 0), .int (nI f), .int d])).length) Slot.unset).toArray = ls at hl ⊢
  have hl : lv_has ls 4 [(0, .ref (ad 0)), (1, .int (nI f)), (2, .int d)] := hl
  refine lv_iload_n hx hb dX7_gradeOf_0 rfl (lv_at hl 2 rfl) ?_
  refine lv_sipush (v := 365) hx hb dX7_gradeOf_1 (by decide) ?_
  refine lv_idiv hx hb dX7_gradeOf_4 (by decide) ?_
  refine lv_aload_n hx hb dX7_gradeOf_5 rfl (lv_at hl 0 rfl) ?_
  refine M_get hx hb hts hiX7 hown hK hρ hH 13 (by decide) hf44 (v := .ref (ad 13)) rfl dX7_gradeOf_6 ?_
  refine lv_iload_n hx hb dX7_gradeOf_9 rfl (lv_at hl 1 rfl) ?_
  refine M_iald hx hb hK hρ hH 13 180 (by decide) f rfl (by omega) dX7_gradeOf_10 ?_
  refine lv_isub hx hb dX7_gradeOf_11 ?_
  refine lv_istore_n (lv' := [(3, .int ((d / 365) - (F 13 f))), (0, .ref (ad 0)), (1, .int (nI f)), (2, .int d)]) hx hb dX7_gradeOf_12 rfl hl (by decide) rfl (fun ls hl => ?_)
  refine lv_iload_n hx hb dX7_gradeOf_13 rfl (lv_at hl 0 rfl) ?_
  refine lv_iconst (v := 3) hx hb dX7_gradeOf_14 (by decide) ?_
  refine lv_icmp_le (tgt := 22) hx hb dX7_gradeOf_15 (by decide) (fun c15 => ?_) (fun c15 => ?_)
  · refine lv_iload_n hx hb dX7_gradeOf_22 rfl (lv_at hl 0 rfl) ?_
    exact x_iret (v := (d / 365) - (F 13 f)) (I, F) hx hb hr hlocks hK hH (⟨by simp [gradI, *]; done, rfl⟩) dX7_gradeOf_23
  · refine lv_iconst (v := 3) hx hb dX7_gradeOf_18 (by decide) ?_
    refine lv_goto (tgt := 23) hx hb dX7_gradeOf_19 (by decide) ?_
    exact x_iret (v := 3) (I, F) hx hb hr hlocks hK hH (⟨by simp [gradI, *]; done, rfl⟩) dX7_gradeOf_23

set_option maxHeartbeats 4000000 in
set_option maxRecDepth 100000 in
theorem c_X7_bears (l : Launch) (G : XG) (A : Nat → Prop) (ρ : Nat → Option Nat) (ad : Nat → Nat) (b : XW) (I : Nat → Int32) (F : Nat → Nat → Int32) (hρ : mA ρ ad) (q : Int32) : Met l yX7_bears wsX7_bears ({ frames := 1, cells := 0, slots := 0, locals := 22 }) (va_Pc [.ref (ad 0), .int q] (xP G A (mw G ρ ad b I F))) (va_Qi (fun (r : Int32) (u : (Nat → Int32) × (Nat → Nat → Int32)) => r = (if binI q 20 400 = 0 then -1 else bearI q) ∧ u = (I, F)) (fun u t => xB G A (mw G ρ ad b u.1 u.2) t) A) 0 0 A := by
  refine Met.ofW (cc := cX7_bears) (maxL := 2) (ret := (some .int)) (by decide) rfl ?_
  intro p e s m args below meth c s₁ B hml hv
  obtain ⟨rfl, hK, hH, hTt⟩ := hv
  have hx := B.exec
  have hb := B.bytes
  have hr := B.returns
  have hts := atoms_spec (ws := wsX7_bears) B.pre
  have hown : s.vm.findClass RX7 = some m.cls := findClass_of_methodNamed B.named
  have hlocks := B.notSynchronized
  have hl := lv_entry ([.ref (ad 0), .int q]) (n := 2) (Nat.le_of_ble_eq_true rfl)
  rw [lg_entry_eq]
  generalize (lg_sl ([.ref (ad 0), .int q]) ++ List.replicate (2 - (lg_sl ([.ref (ad 0), .int q])).length) Slot.unset).toArray = ls at hl ⊢
  have hl : lv_has ls 2 [(0, .ref (ad 0)), (1, .int q)] := hl
  refine lv_iload_n hx hb dX7_bears_0 rfl (lv_at hl 1 rfl) ?_
  refine lv_bipush (v := 20) hx hb dX7_bears_1 (by decide) ?_
  refine lv_sipush (v := 400) hx hb dX7_bears_3 (by decide) ?_
  refine x_calli (va_runS (As := [.int q, .int 20, .int 400]) (rest := []) ⟨hx, hb, hml, hown, hts⟩ (c_X7_in l G A (mw G ρ ad b I F) q 20 400) (va_cwS 3 hts gX7_bears_X7_in rfl rfl rfl (by decide +kernel) ⟨Nat.le_of_ble_eq_true rfl, Nat.le_of_ble_eq_true rfl⟩) (x_preS hK hH hTt [.int q, .int 20, .int 400]) rfl rfl hl.1 rfl (lv_room (Nat.le_of_ble_eq_true rfl)) dX7_bears_6 ⟨Nat.le_of_ble_eq_true rfl, Nat.le_of_ble_eq_true rfl⟩) hH (fun r6 u H locs hp hH => ?_)
  subst hp
  have hH : xH G A s.heap H locs (mw G ρ ad b I F) := hH
  refine lv_if_ne (tgt := 14) hx hb dX7_bears_9 (by decide) (fun c9 => ?_) (fun c9 => ?_)
  · refine lv_iload_n hx hb dX7_bears_14 rfl (lv_at hl 1 rfl) ?_
    refine lv_bipush (v := 80) hx hb dX7_bears_15 (by decide) ?_
    refine lv_icmp_ge (tgt := 24) hx hb dX7_bears_17 (by decide) (fun c17 => ?_) (fun c17 => ?_)
    · refine lv_iload_n hx hb dX7_bears_24 rfl (lv_at hl 1 rfl) ?_
      refine lv_sipush (v := 150) hx hb dX7_bears_25 (by decide) ?_
      refine lv_icmp_ge (tgt := 35) hx hb dX7_bears_28 (by decide) (fun c28 => ?_) (fun c28 => ?_)
      · refine lv_iload_n hx hb dX7_bears_35 rfl (lv_at hl 1 rfl) ?_
        refine lv_sipush (v := 220) hx hb dX7_bears_36 (by decide) ?_
        refine lv_icmp_ge (tgt := 46) hx hb dX7_bears_39 (by decide) (fun c39 => ?_) (fun c39 => ?_)
        · refine lv_iconst (v := 3) hx hb dX7_bears_46 (by decide) ?_
          exact x_iret (v := 3) (I, F) hx hb hr hlocks hK hH (⟨by simp [bearI, *], rfl⟩) dX7_bears_47
        · refine lv_iconst (v := 2) hx hb dX7_bears_42 (by decide) ?_
          refine lv_goto (tgt := 47) hx hb dX7_bears_43 (by decide) ?_
          exact x_iret (v := 2) (I, F) hx hb hr hlocks hK hH (⟨by simp [bearI, *], rfl⟩) dX7_bears_47
      · refine lv_iconst (v := 1) hx hb dX7_bears_31 (by decide) ?_
        refine lv_goto (tgt := 47) hx hb dX7_bears_32 (by decide) ?_
        exact x_iret (v := 1) (I, F) hx hb hr hlocks hK hH (⟨by simp [bearI, *], rfl⟩) dX7_bears_47
    · refine lv_iconst (v := 0) hx hb dX7_bears_20 (by decide) ?_
      refine lv_goto (tgt := 47) hx hb dX7_bears_21 (by decide) ?_
      exact x_iret (v := 0) (I, F) hx hb hr hlocks hK hH (⟨by simp [bearI, *], rfl⟩) dX7_bears_47
  · refine lv_iconst (v := (-1)) hx hb dX7_bears_12 (by decide) ?_
    exact x_iret (v := (-1)) (I, F) hx hb hr hlocks hK hH (⟨by simp [bearI, *], rfl⟩) dX7_bears_13

set_option maxHeartbeats 4000000 in
set_option maxRecDepth 100000 in
theorem c_X7_isFull (l : Launch) (G : XG) (A : Nat → Prop) (ρ : Nat → Option Nat) (ad : Nat → Nat) (b : XW) (I : Nat → Int32) (F : Nat → Nat → Int32) (hρ : mA ρ ad) (f : Nat) (hf : f < 200) : Met l yX7_isFull wsX7_isFull ({ frames := 1, cells := 0, slots := 0, locals := 23 }) (va_Pc [.ref (ad 0), .int (nI f)] (xP G A (mw G ρ ad b I F))) (va_Qi (fun (r : Int32) (u : (Nat → Int32) × (Nat → Nat → Int32)) => r = fullI F f ∧ u = (I, F)) (fun u t => xB G A (mw G ρ ad b u.1 u.2) t) A) 0 0 A := by
  refine Met.ofW (cc := cX7_isFull) (maxL := 2) (ret := (some .boolean)) (by decide) rfl ?_
  intro p e s m args below meth c s₁ B hml hv
  obtain ⟨rfl, hK, hH, hTt⟩ := hv
  have hx := B.exec
  have hb := B.bytes
  have hr := B.returns
  have hts := atoms_spec (ws := wsX7_isFull) B.pre
  have hown : s.vm.findClass RX7 = some m.cls := findClass_of_methodNamed B.named
  have hlocks := B.notSynchronized
  have hiX7 : ∀ w ∈ wsX70, w ∈ wsX7_isFull := by decide +kernel
  have hf62 := hts (.fieldLink RX7 62 "ResinWoodsModel" "isStilled" "[Z") (by decide +kernel)
  have hf65 := hts (.fieldLink RX7 65 "ResinWoodsModel" "isPaid" "[Z") (by decide +kernel)
  have hl := lv_entry ([.ref (ad 0), .int (nI f)]) (n := 2) (Nat.le_of_ble_eq_true rfl)
  rw [lg_entry_eq]
  generalize (lg_sl ([.ref (ad 0), .int (nI f)]) ++ List.replicate (2 - (lg_sl ([.ref (ad 0), .int (nI f)])).length) Slot.unset).toArray = ls at hl ⊢
  have hl : lv_has ls 2 [(0, .ref (ad 0)), (1, .int (nI f))] := hl
  refine lv_aload_n hx hb dX7_isFull_0 rfl (lv_at hl 0 rfl) ?_
  refine lv_iload_n hx hb dX7_isFull_1 rfl (lv_at hl 1 rfl) ?_
  refine x_calli (va_runV (As := [.int (nI f)]) (rest := []) ⟨hx, hb, hml, hown, hts⟩ (c_X7_has l G A ρ ad b I F hρ f (by omega)) (cwV 1 hts gX7_isFull_X7_has rfl rfl rfl (by decide +kernel) ⟨Nat.le_of_ble_eq_true rfl, Nat.le_of_ble_eq_true rfl⟩) (x_preV hK hH hTt (mw_ob hρ) rfl [.int (nI f)]) rfl rfl hl.1 rfl (lv_room (Nat.le_of_ble_eq_true rfl)) dX7_isFull_2 ⟨Nat.le_of_ble_eq_true rfl, Nat.le_of_ble_eq_true rfl⟩) hH (fun r2 u H locs hp hH => ?_)
  obtain ⟨rfl, rfl⟩ := hp
  have hH : xH G A s.heap H locs (mw G ρ ad b I F) := hH
  refine lv_sipush (v := 1000) hx hb dX7_isFull_5 (by decide) ?_
  refine lv_icmp_eq (tgt := 29) hx hb dX7_isFull_8 (by decide) (fun c8 => ?_) (fun c8 => ?_)
  · refine lv_iconst (v := 1) hx hb dX7_isFull_29 (by decide) ?_
    refine lv_goto (tgt := 34) hx hb dX7_isFull_30 (by decide) ?_
    exact x_zret (v := 1) (I, F) hx hb hr hlocks (by decide) hK hH (⟨by simp [fullI, *], rfl⟩) dX7_isFull_34
  · refine lv_aload_n hx hb dX7_isFull_11 rfl (lv_at hl 0 rfl) ?_
    refine M_get hx hb hts hiX7 hown hK hρ hH 20 (by decide) hf62 (v := .ref (ad 20)) rfl dX7_isFull_12 ?_
    refine lv_iload_n hx hb dX7_isFull_15 rfl (lv_at hl 1 rfl) ?_
    refine M_zald hx hb hK hρ hH 20 200 (by decide) f rfl (by omega) dX7_isFull_16 ?_
    refine lv_if_ne (tgt := 29) hx hb dX7_isFull_17 (by decide) (fun c17 => ?_) (fun c17 => ?_)
    · refine lv_iconst (v := 1) hx hb dX7_isFull_29 (by decide) ?_
      refine lv_goto (tgt := 34) hx hb dX7_isFull_30 (by decide) ?_
      exact x_zret (v := 1) (I, F) hx hb hr hlocks (by decide) hK hH (⟨by simp [fullI, *], rfl⟩) dX7_isFull_34
    · refine lv_aload_n hx hb dX7_isFull_20 rfl (lv_at hl 0 rfl) ?_
      refine M_get hx hb hts hiX7 hown hK hρ hH 21 (by decide) hf65 (v := .ref (ad 21)) rfl dX7_isFull_21 ?_
      refine lv_iload_n hx hb dX7_isFull_24 rfl (lv_at hl 1 rfl) ?_
      refine M_zald hx hb hK hρ hH 21 200 (by decide) f rfl (by omega) dX7_isFull_25 ?_
      refine lv_if_eq (tgt := 33) hx hb dX7_isFull_26 (by decide) (fun c26 => ?_) (fun c26 => ?_)
      · refine lv_iconst (v := 0) hx hb dX7_isFull_33 (by decide) ?_
        exact x_zret (v := 0) (I, F) hx hb hr hlocks (by decide) hK hH (⟨by simp [fullI, *], rfl⟩) dX7_isFull_34
      · refine lv_iconst (v := 1) hx hb dX7_isFull_29 (by decide) ?_
        refine lv_goto (tgt := 34) hx hb dX7_isFull_30 (by decide) ?_
        exact x_zret (v := 1) (I, F) hx hb hr hlocks (by decide) hK hH (⟨by simp [fullI, *], rfl⟩) dX7_isFull_34

set_option maxHeartbeats 4000000 in
set_option maxRecDepth 100000 in
theorem c_X7_grade (l : Launch) (G : XG) (A : Nat → Prop) (ρ : Nat → Option Nat) (ad : Nat → Nat) (b : XW) (I : Nat → Int32) (F : Nat → Nat → Int32) (hρ : mA ρ ad) (f : Nat) (hf : f < 200) (h0 : ¬ hasS F f = 0) : Met l yX7_grade wsX7_grade ({ frames := 1, cells := 0, slots := 0, locals := 23 }) (va_Pc [.ref (ad 0), .int (nI f)] (xP G A (mw G ρ ad b I F))) (va_Qi (fun (r : Int32) (u : (Nat → Int32) × (Nat → Nat → Int32)) => r = gradB F f ∧ u = (I, F)) (fun u t => xB G A (mw G ρ ad b u.1 u.2) t) A) 0 0 A := by
  refine Met.ofW (cc := cX7_grade) (maxL := 4) (ret := (some .int)) (by decide) rfl ?_
  intro p e s m args below meth c s₁ B hml hv
  obtain ⟨rfl, hK, hH, hTt⟩ := hv
  have hx := B.exec
  have hb := B.bytes
  have hr := B.returns
  have hts := atoms_spec (ws := wsX7_grade) B.pre
  have hown : s.vm.findClass RX7 = some m.cls := findClass_of_methodNamed B.named
  have hlocks := B.notSynchronized
  have hiX7 : ∀ w ∈ wsX70, w ∈ wsX7_grade := by decide +kernel
  have hf56 := hts (.fieldLink RX7 56 "ResinWoodsModel" "barrelHas" "[I") (by decide +kernel)
  have hl := lv_entry ([.ref (ad 0), .int (nI f)]) (n := 4) (Nat.le_of_ble_eq_true rfl)
  rw [lg_entry_eq]
  generalize (lg_sl ([.ref (ad 0), .int (nI f)]) ++ List.replicate (4 - (lg_sl ([.ref (ad 0), .int (nI f)])).length) Slot.unset).toArray = ls at hl ⊢
  have hl : lv_has ls 4 [(0, .ref (ad 0)), (1, .int (nI f))] := hl
  refine lv_iconst (v := 0) hx hb dX7_grade_0 (by decide) ?_
  refine lv_istore_n (lv' := [(2, .int 0), (0, .ref (ad 0)), (1, .int (nI f))]) hx hb dX7_grade_1 rfl hl (by decide) rfl (fun ls hl => ?_)
  refine lv_iconst (v := 0) hx hb dX7_grade_2 (by decide) ?_
  refine lv_istore_n (lv' := [(3, .int 0), (2, .int 0), (0, .ref (ad 0)), (1, .int (nI f))]) hx hb dX7_grade_3 rfl hl (by decide) rfl (fun ls hl => ?_)
  suffices loop4 : ∀ (k4 : Nat) (g : Nat) (acc : Int32), (4 < g + k4) → (g ≤ 4) → (acc = l_sum (fun g => nI g * F 18 (4 * f + g)) g) → ∀ (H : Heap) (locs : List Loc), xH G A s.heap H locs (mw G ρ ad b I F) → ∀ (ls : Array Slot), lv_has ls 4 [(0, .ref (ad 0)), (1, .int (nI f)), (2, .int acc), (3, .int (nI g))] → W p l e (headSpec wsX7_grade _).room s m _ below meth c H locs 0 0 (MQ below _ _ s 0 0 A) (F0 m 4 ls []) from
    loop4 5 0 0 (by omega) (by omega) (rfl) _ _ hH ls (lv_sub hl [2, 3, 1, 0] rfl)
  intro k4
  induction k4 with
  | zero =>
    intro g acc hfuel hg ha H locs hH ls hl
    exact absurd hfuel (by omega)
  | succ k4 ih4 =>
    intro g acc hfuel hg ha H locs hH ls hl
    refine lv_iload_n hx hb dX7_grade_4 rfl (lv_at hl 3 rfl) ?_
    refine lv_iconst (v := 4) hx hb dX7_grade_5 (by decide) ?_
    refine lv_icmp_ge (tgt := 30) hx hb dX7_grade_6 (by decide) (fun c6 => ?_) (fun c6 => ?_)
    · have c6 : 4 ≤ g := (nI_leI (a := 4) (b := g) (by omega) (by omega)).mp c6
      refine lv_iload_n hx hb dX7_grade_30 rfl (lv_at hl 2 rfl) ?_
      refine lv_aload_n hx hb dX7_grade_31 rfl (lv_at hl 0 rfl) ?_
      refine lv_iload_n hx hb dX7_grade_32 rfl (lv_at hl 1 rfl) ?_
      refine x_calli (va_runV (As := [.int (nI f)]) (rest := [.int acc]) ⟨hx, hb, hml, hown, hts⟩ (c_X7_has l G A ρ ad b I F hρ f (by omega)) (cwV 1 hts gX7_grade_X7_has rfl rfl rfl (by decide +kernel) ⟨Nat.le_of_ble_eq_true rfl, Nat.le_of_ble_eq_true rfl⟩) (x_preV hK hH hTt (mw_ob hρ) rfl [.int (nI f)]) rfl rfl hl.1 rfl (lv_room (Nat.le_of_ble_eq_true rfl)) dX7_grade_33 ⟨Nat.le_of_ble_eq_true rfl, Nat.le_of_ble_eq_true rfl⟩) hH (fun r33 u H locs hp hH => ?_)
      obtain ⟨rfl, rfl⟩ := hp
      have hH : xH G A s.heap H locs (mw G ρ ad b I F) := hH
      refine lv_idiv hx hb dX7_grade_36 (by exact h0) ?_
      exact x_iret (v := acc / (hasS F f)) (I, F) hx hb hr hlocks hK hH (⟨by rw [ha, show g = 4 by omega]; rfl, rfl⟩) dX7_grade_37
    · have c6 : ¬ 4 ≤ g := fun zz => c6 ((nI_leI (a := 4) (b := g) (by omega) (by omega)).mpr zz)
      refine lv_iload_n hx hb dX7_grade_9 rfl (lv_at hl 2 rfl) ?_
      refine lv_iload_n hx hb dX7_grade_10 rfl (lv_at hl 3 rfl) ?_
      refine lv_aload_n hx hb dX7_grade_11 rfl (lv_at hl 0 rfl) ?_
      refine M_get hx hb hts hiX7 hown hK hρ hH 18 (by decide) hf56 (v := .ref (ad 18)) rfl dX7_grade_12 ?_
      refine lv_iconst (v := 4) hx hb dX7_grade_15 (by decide) ?_
      refine lv_iload_n hx hb dX7_grade_16 rfl (lv_at hl 1 rfl) ?_
      refine N_imul hx hb 4 f rfl rfl dX7_grade_17 ?_
      refine lv_iload_n hx hb dX7_grade_18 rfl (lv_at hl 3 rfl) ?_
      refine N_iadd hx hb (4 * f) g rfl rfl dX7_grade_19 ?_
      refine M_iald hx hb hK hρ hH 18 800 (by decide) ((4 * f) + g) rfl (by omega) dX7_grade_20 ?_
      refine lv_imul hx hb dX7_grade_21 ?_
      refine lv_iadd hx hb dX7_grade_22 ?_
      refine lv_topi (fun v23 ev23 => ?_)
      refine lv_istore_n (lv' := [(2, .int v23), (0, .ref (ad 0)), (1, .int (nI f)), (3, .int (nI g))]) hx hb dX7_grade_23 rfl hl (by decide) rfl (fun ls hl => ?_)
      refine lv_iinc (v := nI (g + 1)) (lv' := [(3, .int (nI (g + 1))), (2, .int v23), (0, .ref (ad 0)), (1, .int (nI f))]) hx hb dX7_grade_24 hl (k := 3) rfl (by exact nI_add _ 1) (by decide) rfl (fun ls hl => ?_)
      refine lv_goto (tgt := 4) hx hb dX7_grade_27 (by decide) ?_
      exact ih4 (g + 1) v23 (by omega) (by omega) (by rw [ev23, ha]; rfl) _ _ hH ls (lv_sub hl [2, 3, 1, 0] rfl)
