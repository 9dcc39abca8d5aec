/-! words for the specs -/
def bi (p : Prop) [Decidable p] : Int32 := if p then 1 else 0
theorem bi_0 {p : Prop} [Decidable p] : bi p = 0 ↔ ¬ p := by unfold bi; split <;> simp_all
theorem bi_1 {p : Prop} [Decidable p] : ¬ bi p = 0 ↔ p := by unfold bi; split <;> simp_all
theorem bi_n {p : Prop} [Decidable p] : narrow .boolean (.int (bi p)) = .int (bi p) := by unfold bi; split <;> rfl
def inI (v lo hi : Int32) : Prop := ¬ v < lo ∧ ¬ hi < v
theorem inI_dec (v lo hi : Int32) : inI v lo hi ∨ ¬ inI v lo hi := Classical.em _
noncomputable def binI (v lo hi : Int32) : Int32 := if v < lo then 0 else if hi < v then 0 else 1
theorem binI_0 {v lo hi : Int32} : binI v lo hi = 0 ↔ ¬ inI v lo hi := by unfold binI inI; split <;> simp_all
theorem binI_1 {v lo hi : Int32} : ¬ binI v lo hi = 0 ↔ inI v lo hi := by unfold binI inI; split <;> simp_all
theorem binI_n {v lo hi : Int32} : narrow .boolean (.int (binI v lo hi)) = .int (binI v lo hi) := by unfold binI; split <;> (try split) <;> rfl
theorem inI_nat {v : Int32} {a b : Nat} (h : inI v (nI a) (nI b)) (ha : a < 2 ^ 31) (hb : b < 2 ^ 31) : ∃ j, a ≤ j ∧ j ≤ b ∧ v = nI j := by
  obtain ⟨h1, h2⟩ := h
  have h3 : ¬ v < 0 := by
    intro q
    apply h1
    have : (0 : Int32) ≤ nI a := nI_pos' ha
    rw [Int32.lt_iff_toInt_lt] at q ⊢
    rw [Int32.le_iff_toInt_le] at this
    omega
  obtain ⟨j, hj, rfl⟩ := nI_of h3
  refine ⟨j, ?_, ?_, rfl⟩
  · exact Nat.le_of_not_lt (fun q => h1 ((nI_ltI hj ha).mpr q))
  · exact Nat.le_of_not_lt (fun q => h2 ((nI_ltI hb hj).mpr q))
theorem inI_of {j a b : Nat} (h1 : a ≤ j) (h2 : j ≤ b) (hb : b < 2 ^ 31) : inI (nI j) (nI a) (nI b) := ⟨nI_nlt h1 (by omega), nI_nlt h2 hb⟩
/-- strength of a streak, days behind it -/
def strI (d : Int32) : Int32 := if 5 ≤ d then (if 10 ≤ d then 0 else 1) else 6 - d
/-- what a cup has -/
def cupS (F : Nat → Nat → Int32) (f : Nat) : Int32 := l_sum (fun g => F 14 (4 * f + g)) 4
/-- the grade of a face on a day -/
def gradI (F : Nat → Nat → Int32) (f : Nat) (d : Int32) : Int32 := if d / 365 - F 13 f ≤ 3 then d / 365 - F 13 f else 3
def bearI (g : Int32) : Int32 := if 80 ≤ g then (if 150 ≤ g then (if 220 ≤ g then 3 else 2) else 1) else 0

set_option maxHeartbeats 4000000 in
set_option maxRecDepth 100000 in
theorem c_X7_in (l : Launch) (G : XG) (A : Nat → Prop) (w : XW) (v lo hi : Int32) : Met l yX7_in wsX7_in ({ frames := 0, cells := 0, slots := 0, locals := 0 }) (va_Pc [.int v, .int lo, .int hi] (xP G A (w))) (va_Qi (fun (r : Int32) (u : Unit) => r = binI v lo hi) (fun u t => xB G A (w) t) A) 0 0 A := by
  refine Met.ofW (cc := cX7_in) (maxL := 3) (ret := (some .boolean)) (by decide) rfl ?_
  intro p e s m args below meth c s₁ B hml hv
  obtain ⟨rfl, hK, hH⟩ := hv
  have hx := B.exec
  have hb := B.bytes
  have hr := B.returns
  have hts := atoms_spec (ws := wsX7_in) B.pre
  have hown : s.vm.findClass RX7 = some m.cls := findClass_of_methodNamed B.named
  have hlocks := B.notSynchronized
  have hl := lv_entry ([.int v, .int lo, .int hi]) (n := 3) (Nat.le_of_ble_eq_true rfl)
  rw [lg_entry_eq]
  generalize (lg_sl ([.int v, .int lo, .int hi]) ++ List.replicate (3 - (lg_sl ([.int v, .int lo, .int hi])).length) Slot.unset).toArray = ls at hl ⊢
  have hl : lv_has ls 3 [(0, .int v), (1, .int lo), (2, .int hi)] := hl
  refine lv_iload_n hx hb dX7_in_0 rfl (lv_at hl 0 rfl) ?_
  refine lv_iload_n hx hb dX7_in_1 rfl (lv_at hl 1 rfl) ?_
  refine lv_icmp_lt (tgt := 14) hx hb dX7_in_2 (by decide) (fun c2 => ?_) (fun c2 => ?_)
  · refine lv_iconst (v := 0) hx hb dX7_in_14 (by decide) ?_
    exact x_zret (v := 0) () hx hb hr hlocks (by decide) hK hH (by simp [binI, *]) dX7_in_15
  · refine lv_iload_n hx hb dX7_in_5 rfl (lv_at hl 0 rfl) ?_
    refine lv_iload_n hx hb dX7_in_6 rfl (lv_at hl 2 rfl) ?_
    refine lv_icmp_gt (tgt := 14) hx hb dX7_in_7 (by decide) (fun c7 => ?_) (fun c7 => ?_)
    · refine lv_iconst (v := 0) hx hb dX7_in_14 (by decide) ?_
      exact x_zret (v := 0) () hx hb hr hlocks (by decide) hK hH (by simp [binI, *]) dX7_in_15
    · refine lv_iconst (v := 1) hx hb dX7_in_10 (by decide) ?_
      refine lv_goto (tgt := 15) hx hb dX7_in_11 (by decide) ?_
      exact x_zret (v := 1) () hx hb hr hlocks (by decide) hK hH (by simp [binI, *]) dX7_in_15

set_option maxHeartbeats 4000000 in
set_option maxRecDepth 100000 in
theorem c_X7_strength (l : Launch) (G : XG) (A : Nat → Prop) (w : XW) (d : Int32) : Met l yX7_strength wsX7_strength ({ frames := 0, cells := 0, slots := 0, locals := 0 }) (va_Pc [.int d] (xP G A (w))) (va_Qi (fun (r : Int32) (u : Unit) => r = strI d) (fun u t => xB G A (w) t) A) 0 0 A := by
  refine Met.ofW (cc := cX7_strength) (maxL := 1) (ret := (some .int)) (by decide) rfl ?_
  intro p e s m args below meth c s₁ B hml hv
  obtain ⟨rfl, hK, hH⟩ := hv
  have hx := B.exec
  have hb := B.bytes
  have hr := B.returns
  have hts := atoms_spec (ws := wsX7_strength) B.pre
  have hown : s.vm.findClass RX7 = some m.cls := findClass_of_methodNamed B.named
  have hlocks := B.notSynchronized
  have hl := lv_entry ([.int d]) (n := 1) (Nat.le_of_ble_eq_true rfl)
  rw [lg_entry_eq]
  generalize (lg_sl ([.int d]) ++ List.replicate (1 - (lg_sl ([.int d])).length) Slot.unset).toArray = ls at hl ⊢
  have hl : lv_has ls 1 [(0, .int d)] := hl
  refine lv_iload_n hx hb dX7_strength_0 rfl (lv_at hl 0 rfl) ?_
  refine lv_iconst (v := 5) hx hb dX7_strength_1 (by decide) ?_
  refine lv_icmp_ge (tgt := 12) hx hb dX7_strength_2 (by decide) (fun c2 => ?_) (fun c2 => ?_)
  · refine lv_iload_n hx hb dX7_strength_12 rfl (lv_at hl 0 rfl) ?_
    refine lv_bipush (v := 10) hx hb dX7_strength_13 (by decide) ?_
    refine lv_icmp_ge (tgt := 22) hx hb dX7_strength_15 (by decide) (fun c15 => ?_) (fun c15 => ?_)
    · refine lv_iconst (v := 0) hx hb dX7_strength_22 (by decide) ?_
      exact x_iret (v := 0) () hx hb hr hlocks hK hH (by simp [strI, *]) dX7_strength_23
    · refine lv_iconst (v := 1) hx hb dX7_strength_18 (by decide) ?_
      refine lv_goto (tgt := 23) hx hb dX7_strength_19 (by decide) ?_
      exact x_iret (v := 1) () hx hb hr hlocks hK hH (by simp [strI, *]) dX7_strength_23
  · refine lv_bipush (v := 6) hx hb dX7_strength_5 (by decide) ?_
    refine lv_iload_n hx hb dX7_strength_7 rfl (lv_at hl 0 rfl) ?_
    refine lv_isub hx hb dX7_strength_8 ?_
    refine lv_goto (tgt := 23) hx hb dX7_strength_9 (by decide) ?_
    exact x_iret (v := 6 - d) () hx hb hr hlocks hK hH (by simp [strI, *]) dX7_strength_23

set_option maxHeartbeats 4000000 in
set_option maxRecDepth 100000 in
theorem c_X7_isTree (l : Launch) (G : XG) (A : Nat → Prop) (ρ : Nat → Option Nat) (ad : Nat → Nat) (b : XW) (I : Nat → Int32) (F : Nat → Nat → Int32) (hρ : mA ρ ad) (t : Int32) : Met l yX7_isTree wsX7_isTree ({ frames := 1, cells := 0, slots := 0, locals := 22 }) (va_Pc [.ref (ad 0), .int t] (xP G A (mw G ρ ad b I F))) (va_Qi (fun (r : Int32) (u : (Nat → Int32) × (Nat → Nat → Int32)) => r = binI t 0 (I 3 - 1) ∧ u = (I, F)) (fun u t => xB G A (mw G ρ ad b u.1 u.2) t) A) 0 0 A := by
  refine Met.ofW (cc := cX7_isTree) (maxL := 2) (ret := (some .boolean)) (by decide) rfl ?_
  intro p e s m args below meth c s₁ B hml hv
  obtain ⟨rfl, hK, hH⟩ := hv
  have hx := B.exec
  have hb := B.bytes
  have hr := B.returns
  have hts := atoms_spec (ws := wsX7_isTree) B.pre
  have hown : s.vm.findClass RX7 = some m.cls := findClass_of_methodNamed B.named
  have hlocks := B.notSynchronized
  have hiX7 : ∀ w ∈ wsX70, w ∈ wsX7_isTree := by decide +kernel
  have hf92 := hts (.fieldLink RX7 92 "ResinWoodsModel" "trees" "I") (by decide +kernel)
  have hl := lv_entry ([.ref (ad 0), .int t]) (n := 2) (Nat.le_of_ble_eq_true rfl)
  rw [lg_entry_eq]
  generalize (lg_sl ([.ref (ad 0), .int t]) ++ List.replicate (2 - (lg_sl ([.ref (ad 0), .int t])).length) Slot.unset).toArray = ls at hl ⊢
  have hl : lv_has ls 2 [(0, .ref (ad 0)), (1, .int t)] := hl
  refine lv_iload_n hx hb dX7_isTree_0 rfl (lv_at hl 1 rfl) ?_
  refine lv_iconst (v := 0) hx hb dX7_isTree_1 (by decide) ?_
  refine lv_aload_n hx hb dX7_isTree_2 rfl (lv_at hl 0 rfl) ?_
  refine M_get hx hb hts hiX7 hown hK hρ hH 3 (by decide) hf92 (v := .int (I 3)) rfl dX7_isTree_3 ?_
  refine lv_iconst (v := 1) hx hb dX7_isTree_6 (by decide) ?_
  refine lv_isub hx hb dX7_isTree_7 ?_
  refine x_calli (va_runS (As := [.int t, .int 0, .int ((I 3) - 1)]) (rest := []) ⟨hx, hb, hml, hown, hts⟩ (c_X7_in l G A (mw G ρ ad b I F) t 0 ((I 3) - 1)) (va_cwS 3 hts gX7_isTree_X7_in rfl rfl rfl (by decide +kernel) ⟨Nat.le_of_ble_eq_true rfl, Nat.le_of_ble_eq_true rfl⟩) (x_preS hK hH [.int t, .int 0, .int ((I 3) - 1)]) rfl rfl hl.1 rfl (lv_room (Nat.le_of_ble_eq_true rfl)) dX7_isTree_8 ⟨Nat.le_of_ble_eq_true rfl, Nat.le_of_ble_eq_true rfl⟩) hH (fun r1 u H locs hp hH => ?_)
  have hr1 := hp
  exact x_zret (v := r1) (I, F) hx hb hr hlocks (by rw [hr1]; exact binI_n) hK hH (⟨hr1, rfl⟩) dX7_isTree_11

set_option maxHeartbeats 4000000 in
set_option maxRecDepth 100000 in
theorem c_X7_inCup (l : Launch) (G : XG) (A : Nat → Prop) (ρ : Nat → Option Nat) (ad : Nat → Nat) (b : XW) (I : Nat → Int32) (F : Nat → Nat → Int32) (hρ : mA ρ ad) (f : Nat) (hf : f < 180) : Met l yX7_inCup wsX7_inCup ({ frames := 0, cells := 0, slots := 0, locals := 0 }) (va_Pc [.ref (ad 0), .int (nI f)] (xP G A (mw G ρ ad b I F))) (va_Qi (fun (r : Int32) (u : (Nat → Int32) × (Nat → Nat → Int32)) => r = cupS F f ∧ u = (I, F)) (fun u t => xB G A (mw G ρ ad b u.1 u.2) t) A) 0 0 A := by
  refine Met.ofW (cc := cX7_inCup) (maxL := 4) (ret := (some .int)) (by decide) rfl ?_
  intro p e s m args below meth c s₁ B hml hv
  obtain ⟨rfl, hK, hH⟩ := hv
  have hx := B.exec
  have hb := B.bytes
  have hr := B.returns
  have hts := atoms_spec (ws := wsX7_inCup) B.pre
  have hown : s.vm.findClass RX7 = some m.cls := findClass_of_methodNamed B.named
  have hlocks := B.notSynchronized
  have hiX7 : ∀ w ∈ wsX70, w ∈ wsX7_inCup := by decide +kernel
  have hf47 := hts (.fieldLink RX7 47 "ResinWoodsModel" "cups" "[I") (by decide +kernel)
  have hl := lv_entry ([.ref (ad 0), .int (nI f)]) (n := 4) (Nat.le_of_ble_eq_true rfl)
  rw [lg_entry_eq]
  generalize (lg_sl ([.ref (ad 0), .int (nI f)]) ++ List.replicate (4 - (lg_sl ([.ref (ad 0), .int (nI f)])).length) Slot.unset).toArray = ls at hl ⊢
  have hl : lv_has ls 4 [(0, .ref (ad 0)), (1, .int (nI f))] := hl
  refine lv_iconst (v := 0) hx hb dX7_inCup_0 (by decide) ?_
  refine lv_istore_n (lv' := [(2, .int 0), (0, .ref (ad 0)), (1, .int (nI f))]) hx hb dX7_inCup_1 rfl hl (by decide) rfl (fun ls hl => ?_)
  refine lv_iconst (v := 0) hx hb dX7_inCup_2 (by decide) ?_
  refine lv_istore_n (lv' := [(3, .int 0), (2, .int 0), (0, .ref (ad 0)), (1, .int (nI f))]) hx hb dX7_inCup_3 rfl hl (by decide) rfl (fun ls hl => ?_)
  suffices loop4 : ∀ (k4 : Nat) (g : Nat) (acc : Int32), (4 < g + k4) → (g ≤ 4) → (acc = l_sum (fun g => F 14 (4 * f + g)) g) → ∀ (H : Heap) (locs : List Loc), xH G A s.heap H locs (mw G ρ ad b I F) → ∀ (ls : Array Slot), lv_has ls 4 [(0, .ref (ad 0)), (1, .int (nI f)), (2, .int acc), (3, .int (nI g))] → W p l e (headSpec wsX7_inCup _).room s m _ below meth c H locs 0 0 (MQ below _ _ s 0 0 A) (F0 m 4 ls []) from
    loop4 5 0 0 (by omega) (by omega) (rfl) _ _ hH ls (lv_sub hl [2, 3, 1, 0] rfl)
  intro k4
  induction k4 with
  | zero =>
    intro g acc hfuel hg ha H locs hH ls hl
    exact absurd hfuel (by omega)
  | succ k4 ih4 =>
    intro g acc hfuel hg ha H locs hH ls hl
    refine lv_iload_n hx hb dX7_inCup_4 rfl (lv_at hl 3 rfl) ?_
    refine lv_iconst (v := 4) hx hb dX7_inCup_5 (by decide) ?_
    refine lv_icmp_ge (tgt := 28) hx hb dX7_inCup_6 (by decide) (fun c6 => ?_) (fun c6 => ?_)
    · have c6 : 4 ≤ g := (nI_leI (a := 4) (b := g) (by omega) (by omega)).mp c6
      refine lv_iload_n hx hb dX7_inCup_28 rfl (lv_at hl 2 rfl) ?_
      exact x_iret (v := acc) (I, F) hx hb hr hlocks hK hH (⟨by rw [ha, show g = 4 by omega]; rfl, rfl⟩) dX7_inCup_29
    · have c6 : ¬ 4 ≤ g := fun q => c6 ((nI_leI (a := 4) (b := g) (by omega) (by omega)).mpr q)
      refine lv_iload_n hx hb dX7_inCup_9 rfl (lv_at hl 2 rfl) ?_
      refine lv_aload_n hx hb dX7_inCup_10 rfl (lv_at hl 0 rfl) ?_
      refine M_get hx hb hts hiX7 hown hK hρ hH 14 (by decide) hf47 (v := .ref (ad 14)) rfl dX7_inCup_11 ?_
      refine lv_iconst (v := 4) hx hb dX7_inCup_14 (by decide) ?_
      refine lv_iload_n hx hb dX7_inCup_15 rfl (lv_at hl 1 rfl) ?_
      refine N_imul hx hb 4 f rfl rfl dX7_inCup_16 ?_
      refine lv_iload_n hx hb dX7_inCup_17 rfl (lv_at hl 3 rfl) ?_
      refine N_iadd hx hb (4 * f) g rfl rfl dX7_inCup_18 ?_
      refine M_iald hx hb hK hρ hH 14 720 (by decide) ((4 * f) + g) rfl (by omega) dX7_inCup_19 ?_
      refine lv_iadd hx hb dX7_inCup_20 ?_
      refine lv_topi (fun v1 ev1 => ?_)
      refine lv_istore_n (lv' := [(2, .int v1), (0, .ref (ad 0)), (1, .int (nI f)), (3, .int (nI g))]) hx hb dX7_inCup_21 rfl hl (by decide) rfl (fun ls hl => ?_)
      refine lv_iinc (v := nI (g + 1)) (lv' := [(3, .int (nI (g + 1))), (2, .int v1), (0, .ref (ad 0)), (1, .int (nI f))]) hx hb dX7_inCup_22 hl (k := 3) rfl (by exact nI_add _ 1) (by decide) rfl (fun ls hl => ?_)
      refine lv_goto (tgt := 4) hx hb dX7_inCup_25 (by decide) ?_
      exact ih4 (g + 1) v1 (by omega) (by omega) (by rw [ev1, ha]; rfl) _ _ hH ls (lv_sub hl [2, 3, 1, 0] rfl)
