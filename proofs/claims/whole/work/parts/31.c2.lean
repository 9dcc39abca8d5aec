
def wsf (f : Nat → Int32) (r : Int32) (i : Nat) : Nat → Int32 := fun j => if j < i then f j - f j * r / 100 else f j
theorem wsf_s (f : Nat → Int32) (r : Int32) (i : Nat) : upd (wsf f r i) i (f i - f i * r / 100) = wsf f r (i + 1) := by
  funext j
  unfold upd wsf
  by_cases h : j = i
  · subst h; simp
  · rw [if_neg h]; simp [show j < i + 1 ↔ j < i by omega]
theorem wsf_at (f : Nat → Int32) (r : Int32) (i : Nat) : wsf f r i i = f i := by unfold wsf; rw [if_neg (Nat.lt_irrefl i)]
def zrf (f : Nat → Int32) (i : Nat) : Nat → Int32 := fun j => if j < i then 0 else f j
theorem zrf_s (f : Nat → Int32) (i : Nat) : upd (zrf f i) i 0 = zrf f (i + 1) := by
  funext j
  unfold upd zrf
  by_cases h : j = i
  · subst h; simp
  · rw [if_neg h]; simp [show j < i + 1 ↔ j < i by omega]
def waS (f : Nat → Int32) (r : Int32) : Int32 := l_sum (fun g => f g * r / 100) 4

set_option maxHeartbeats 4000000 in
set_option maxRecDepth 100000 in
theorem c_X1_washBy (l : Launch) (G : XG) (A : Nat → Prop) (w : XW) (a ga : Nat) (st la oy has ro : Int32) (f : Nat → Int32) (hc_a : w a = some (.inr (2, [.int st, .int la, .int oy, .int has, .int ro, .ref ga]))) (hc_ga : w ga = some (.inl (G.2 0, 4, .inl f))) (rain : Int32) : Met l yX1_washBy wsX1_washBy ({ frames := 0, cells := 0, slots := 0, locals := 0 }) (va_Pc [.ref a, .int rain] (xP G A (w))) (va_Qi (fun (r : Int32) (u : XW) => r = waS f rain ∧ u a = some (.inr (2, [.int st, .int la, .int oy, .int (has - waS f rain), .int ro, .ref ga])) ∧ u ga = some (.inl (G.2 0, 4, .inl (wsf f rain 4))) ∧ ∀ y, y ≠ a → y ≠ ga → u y = w y) (fun u t => xB G A (u) t) A) 0 0 A := by
  refine Met.ofW (cc := cX1_washBy) (maxL := 5) (ret := (some .int)) (by decide) rfl ?_
  intro p e s m args below meth c s₁ B hml hv
  obtain ⟨rfl, hK, hH, hTt⟩ := hv
  have hx := B.exec
  have hb := B.bytes
  have hr := B.returns
  have hts := atoms_spec (ws := wsX1_washBy) B.pre
  have hown : s.vm.findClass RX1 = some m.cls := findClass_of_methodNamed B.named
  have hlocks := B.notSynchronized
  have hiX1 : ∀ w ∈ wsX10, w ∈ wsX1_washBy := by decide +kernel
  have hf21 := hts (.fieldLink RX1 21 "ResinWoods$Face" "has" "I") (by decide +kernel)
  have hf27 := hts (.fieldLink RX1 27 "ResinWoods$Face" "ofGrade" "[I") (by decide +kernel)
  have hl := lv_entry ([.ref a, .int rain]) (n := 5) (Nat.le_of_ble_eq_true rfl)
  rw [lg_entry_eq]
  generalize (lg_sl ([.ref a, .int rain]) ++ List.replicate (5 - (lg_sl ([.ref a, .int rain])).length) Slot.unset).toArray = ls at hl ⊢
  have hl : lv_has ls 5 [(0, .ref a), (1, .int rain)] := hl
  have ne_a_ga : a ≠ ga := fun e9 => by rw [e9, hc_ga] at hc_a; cases hc_a
  have ne_ga_a : ga ≠ a := fun e9 => by rw [e9, hc_a] at hc_ga; cases hc_ga
  refine lv_iconst (v := 0) hx hb dX1_washBy_0 (by decide) ?_
  refine lv_istore_n (lv' := [(2, .int 0), (0, .ref a), (1, .int rain)]) hx hb dX1_washBy_1 rfl hl (by decide) rfl (fun ls hl => ?_)
  refine lv_iconst (v := 0) hx hb dX1_washBy_2 (by decide) ?_
  refine lv_istore_n (lv' := [(3, .int 0), (2, .int 0), (0, .ref a), (1, .int rain)]) hx hb dX1_washBy_3 rfl hl (by decide) rfl (fun ls hl => ?_)
  suffices loop4 : ∀ (k4 : Nat) (i : Nat) (ac : Int32) (wl : XW) (f1 : Nat → Int32), (4 < i + k4) → (i ≤ 4) → (ac = l_sum (fun g => f g * rain / 100) i) → (f1 = wsf f rain i) → (wl a = some (.inr (2, [.int st, .int la, .int oy, .int has, .int ro, .ref ga]))) → (wl ga = some (.inl (G.2 0, 4, .inl f1))) → (∀ y, y ≠ a → y ≠ ga → wl y = w y) → ∀ (H : Heap) (locs : List Loc), xH G A s.heap H locs (wl) → ∀ (ls : Array Slot), lv_has ls 5 [(0, .ref a), (1, .int rain), (2, .int ac), (3, .int (nI i))] → W p l e (headSpec wsX1_washBy _).room s m _ below meth c H locs 0 0 (MQ below _ _ s 0 0 A) (F0 m 4 ls []) from
    loop4 5 0 0 w f (by omega) (by omega) (rfl) (by funext j; simp [wsf]) (hc_a) (hc_ga) (fun _ _ _ => rfl) _ _ hH ls (lv_sub hl [2, 3, 1, 0] rfl)
  intro k4
  induction k4 with
  | zero =>
    intro i ac wl f1 hfuel hi hac hf1 hc_a hc_ga hfr H locs hH ls hl
    exact absurd hfuel (by omega)
  | succ k4 ih4 =>
    intro i ac wl f1 hfuel hi hac hf1 hc_a hc_ga hfr H locs hH ls hl
    refine lv_iload_n hx hb dX1_washBy_4 rfl (lv_at hl 3 rfl) ?_
    refine lv_iconst (v := 4) hx hb dX1_washBy_5 (by decide) ?_
    refine lv_icmp_ge (tgt := 44) hx hb dX1_washBy_6 (by decide) (fun c6 => ?_) (fun c6 => ?_)
    · have c6 : 4 ≤ i := (nI_leI (a := 4) (b := i) (by omega) (by omega)).mp c6
      refine lv_aload_n hx hb dX1_washBy_44 rfl (lv_at hl 0 rfl) ?_
      refine lv_dup hx hb dX1_washBy_45 rfl ?_
      refine x_get (C := RX1) (T := TX1) (N := 6) hx hb hts hiX1 hown hK hH hc_a rfl 3 (by decide) hf21 (fun _ h => h) (v := .int has) rfl dX1_washBy_46 ?_
      refine lv_iload_n hx hb dX1_washBy_49 rfl (lv_at hl 2 rfl) ?_
      refine lv_isub hx hb dX1_washBy_50 ?_
      refine x_put (C := RX1) (T := TX1) (N := 6) (ty := .int) hx hb hts hiX1 tyX1 tyX1_ok nmX1 hown hK hH hc_a rfl 3 (by decide) hf21 (fun _ h => h) rfl (by decide +kernel) rfl rfl (Nat.le_of_ble_eq_true rfl) dX1_washBy_51 (fun H locs hH => ?_)
      have hH : xH G A s.heap H locs (va_up wl a (some (.inr (2, [.int st, .int la, .int oy, .int (has - ac), .int ro, .ref ga])))) := hH
      obtain ⟨w51, ew51⟩ : ∃ z, z = va_up wl a (some (.inr (2, [.int st, .int la, .int oy, .int (has - ac), .int ro, .ref ga]))) := ⟨_, rfl⟩
      rw [← ew51] at hH
      have hc_a : w51 a = some (.inr (2, [.int st, .int la, .int oy, .int (has - ac), .int ro, .ref ga])) := by rw [ew51]; exact if_pos rfl
      have hc_ga : w51 ga = some (.inl (G.2 0, 4, .inl f1)) := by rw [ew51, show va_up wl a _ ga = wl ga from if_neg ne_ga_a]; exact hc_ga
      have hfr : ∀ x, x ≠ a → x ≠ ga → w51 x = w x := fun x z_a z_ga => by rw [ew51]; exact (if_neg z_a).trans (hfr x z_a z_ga)
      refine lv_iload_n hx hb dX1_washBy_54 rfl (lv_at hl 2 rfl) ?_
      exact x_iret (v := ac) w51 hx hb hr hlocks hK hH (by have e9 : ac = waS f rain := (by rw [hac, show i = 4 by omega]; rfl); have e8 : f1 = wsf f rain 4 := (by rw [hf1, show i = 4 by omega]); subst e9; subst e8; exact ⟨rfl, hc_a, hc_ga, hfr⟩) dX1_washBy_55
    · have c6 : ¬ 4 ≤ i := fun zz => c6 ((nI_leI (a := 4) (b := i) (by omega) (by omega)).mpr zz)
      refine lv_aload_n hx hb dX1_washBy_9 rfl (lv_at hl 0 rfl) ?_
      refine x_get (C := RX1) (T := TX1) (N := 6) hx hb hts hiX1 hown hK hH hc_a rfl 5 (by decide) hf27 (fun _ h => h) (v := .ref ga) rfl dX1_washBy_10 ?_
      refine lv_iload_n hx hb dX1_washBy_13 rfl (lv_at hl 3 rfl) ?_
      refine Y_iald hx hb hK hH hc_ga i rfl (by omega) (by decide) dX1_washBy_14 ?_
      refine lv_iload_n hx hb dX1_washBy_15 rfl (lv_at hl 1 rfl) ?_
      refine lv_imul hx hb dX1_washBy_16 ?_
      refine lv_bipush (v := 100) hx hb dX1_washBy_17 (by decide) ?_
      refine lv_idiv hx hb dX1_washBy_19 (by decide) ?_
      refine lv_topi (fun v20 ev20 => ?_)
      refine lv_istore (lv' := [(4, .int v20), (0, .ref a), (1, .int rain), (2, .int ac), (3, .int (nI i))]) hx hb dX1_washBy_20 hl (by decide) rfl (fun ls hl => ?_)
      refine lv_aload_n hx hb dX1_washBy_22 rfl (lv_at hl 1 rfl) ?_
      refine x_get (C := RX1) (T := TX1) (N := 6) hx hb hts hiX1 hown hK hH hc_a rfl 5 (by decide) hf27 (fun _ h => h) (v := .ref ga) rfl dX1_washBy_23 ?_
      refine lv_iload_n hx hb dX1_washBy_26 rfl (lv_at hl 4 rfl) ?_
      refine lv_dup2_11 hx hb dX1_washBy_27 rfl rfl ?_
      refine Y_iald hx hb hK hH hc_ga i rfl (by omega) (by decide) dX1_washBy_28 ?_
      refine lv_iload hx hb dX1_washBy_29 (lv_at hl 0 rfl) ?_
      refine lv_isub hx hb dX1_washBy_31 ?_
      refine Y_iast hx hb hK hH hc_ga i rfl (by omega) (by decide) dX1_washBy_32 (fun H locs hH => ?_)
      have hH : xH G A s.heap H locs (va_up wl ga (some (.inl (G.2 0, 4, .inl (upd f1 i ((f1 i) - v20)))))) := hH
      obtain ⟨w32, ew32⟩ : ∃ z, z = va_up wl ga (some (.inl (G.2 0, 4, .inl (upd f1 i ((f1 i) - v20))))) := ⟨_, rfl⟩
      rw [← ew32] at hH
      have hc_a : w32 a = some (.inr (2, [.int st, .int la, .int oy, .int has, .int ro, .ref ga])) := by rw [ew32, show va_up wl ga _ a = wl a from if_neg ne_a_ga]; exact hc_a
      have hc_ga : w32 ga = some (.inl (G.2 0, 4, .inl (upd f1 i ((f1 i) - v20)))) := by rw [ew32]; exact if_pos rfl
      have hfr : ∀ x, x ≠ a → x ≠ ga → w32 x = w x := fun x z_a z_ga => by rw [ew32]; exact (if_neg z_ga).trans (hfr x z_a z_ga)
      refine lv_iload_n hx hb dX1_washBy_33 rfl (lv_at hl 3 rfl) ?_
      refine lv_iload hx hb dX1_washBy_34 (lv_at hl 0 rfl) ?_
      refine lv_iadd hx hb dX1_washBy_36 ?_
      refine lv_istore_n (lv' := [(2, .int (ac + v20)), (4, .int v20), (0, .ref a), (1, .int rain), (3, .int (nI i))]) hx hb dX1_washBy_37 rfl hl (by decide) rfl (fun ls hl => ?_)
      refine lv_iinc (v := nI (i + 1)) (lv' := [(3, .int (nI (i + 1))), (2, .int (ac + v20)), (4, .int v20), (0, .ref a), (1, .int rain)]) hx hb dX1_washBy_38 hl (k := 4) rfl (by exact nI_add _ 1) (by decide) rfl (fun ls hl => ?_)
      refine lv_goto (tgt := 4) hx hb dX1_washBy_41 (by decide) ?_
      exact ih4 (i + 1) (ac + v20) w32 (upd f1 i ((f1 i) - v20)) (by omega) (by omega) (by rw [hac, ev20, hf1, wsf_at]; rfl) (by rw [ev20, hf1, wsf_at]; exact wsf_s f rain i) (hc_a) (hc_ga) (hfr) _ _ hH ls (lv_sub hl [3, 4, 1, 0] rfl)

set_option maxHeartbeats 4000000 in
set_option maxRecDepth 100000 in
theorem c_X1_clearCup (l : Launch) (G : XG) (A : Nat → Prop) (w : XW) (a ga : Nat) (st la oy has ro : Int32) (f : Nat → Int32) (hc_a : w a = some (.inr (2, [.int st, .int la, .int oy, .int has, .int ro, .ref ga]))) (hc_ga : w ga = some (.inl (G.2 0, 4, .inl f)))  : Met l yX1_clearCup wsX1_clearCup ({ frames := 0, cells := 0, slots := 0, locals := 0 }) (va_Pc [.ref a] (xP G A (w))) (va_Qv (fun (u : XW) => u a = some (.inr (2, [.int st, .int la, .int oy, .int 0, .int ro, .ref ga])) ∧ u ga = some (.inl (G.2 0, 4, .inl (zrf f 4))) ∧ ∀ y, y ≠ a → y ≠ ga → u y = w y) (fun u t => xB G A (u) t) A) 0 0 A := by
  refine Met.ofW (cc := cX1_clearCup) (maxL := 2) (ret := none) (by decide) rfl ?_
  intro p e s m args below meth c s₁ B hml hv
  obtain ⟨rfl, hK, hH, hTt⟩ := hv
  have hx := B.exec
  have hb := B.bytes
  have hr := B.returns
  have hts := atoms_spec (ws := wsX1_clearCup) B.pre
  have hown : s.vm.findClass RX1 = some m.cls := findClass_of_methodNamed B.named
  have hlocks := B.notSynchronized
  have hiX1 : ∀ w ∈ wsX10, w ∈ wsX1_clearCup := by decide +kernel
  have hf21 := hts (.fieldLink RX1 21 "ResinWoods$Face" "has" "I") (by decide +kernel)
  have hf27 := hts (.fieldLink RX1 27 "ResinWoods$Face" "ofGrade" "[I") (by decide +kernel)
  have hl := lv_entry ([.ref a]) (n := 2) (Nat.le_of_ble_eq_true rfl)
  rw [lg_entry_eq]
  generalize (lg_sl ([.ref a]) ++ List.replicate (2 - (lg_sl ([.ref a])).length) Slot.unset).toArray = ls at hl ⊢
  have hl : lv_has ls 2 [(0, .ref a)] := hl
  have ne_a_ga : a ≠ ga := fun e9 => by rw [e9, hc_ga] at hc_a; cases hc_a
  have ne_ga_a : ga ≠ a := fun e9 => by rw [e9, hc_a] at hc_ga; cases hc_ga
  refine lv_aload_n hx hb dX1_clearCup_0 rfl (lv_at hl 0 rfl) ?_
  refine lv_iconst (v := 0) hx hb dX1_clearCup_1 (by decide) ?_
  refine x_put (C := RX1) (T := TX1) (N := 6) (ty := .int) hx hb hts hiX1 tyX1 tyX1_ok nmX1 hown hK hH hc_a rfl 3 (by decide) hf21 (fun _ h => h) rfl (by decide +kernel) rfl rfl (Nat.le_of_ble_eq_true rfl) dX1_clearCup_2 (fun H locs hH => ?_)
  have hH : xH G A s.heap H locs (va_up w a (some (.inr (2, [.int st, .int la, .int oy, .int 0, .int ro, .ref ga])))) := hH
  obtain ⟨w2, ew2⟩ : ∃ z, z = va_up w a (some (.inr (2, [.int st, .int la, .int oy, .int 0, .int ro, .ref ga]))) := ⟨_, rfl⟩
  rw [← ew2] at hH
  have hc_a : w2 a = some (.inr (2, [.int st, .int la, .int oy, .int 0, .int ro, .ref ga])) := by rw [ew2]; exact if_pos rfl
  have hc_ga : w2 ga = some (.inl (G.2 0, 4, .inl f)) := by rw [ew2, show va_up w a _ ga = w ga from if_neg ne_ga_a]; exact hc_ga
  have hfr : ∀ x, x ≠ a → x ≠ ga → w2 x = w x := fun x z_a z_ga => by rw [ew2]; exact if_neg z_a
  refine lv_iconst (v := 0) hx hb dX1_clearCup_5 (by decide) ?_
  refine lv_istore_n (lv' := [(1, .int 0), (0, .ref a)]) hx hb dX1_clearCup_6 rfl hl (by decide) rfl (fun ls hl => ?_)
  suffices loop7 : ∀ (k7 : Nat) (i : Nat) (wl : XW) (f1 : Nat → Int32), (4 < i + k7) → (i ≤ 4) → (f1 = zrf f i) → (wl a = some (.inr (2, [.int st, .int la, .int oy, .int 0, .int ro, .ref ga]))) → (wl ga = some (.inl (G.2 0, 4, .inl f1))) → (∀ y, y ≠ a → y ≠ ga → wl y = w y) → ∀ (H : Heap) (locs : List Loc), xH G A s.heap H locs (wl) → ∀ (ls : Array Slot), lv_has ls 2 [(0, .ref a), (1, .int (nI i))] → W p l e (headSpec wsX1_clearCup _).room s m _ below meth c H locs 0 0 (MQ below _ _ s 0 0 A) (F0 m 7 ls []) from
    loop7 5 0 w2 f (by omega) (by omega) (by funext j; simp [zrf]) (hc_a) (hc_ga) (hfr) _ _ hH ls (lv_sub hl [1, 0] rfl)
  intro k7
  induction k7 with
  | zero =>
    intro i wl f1 hfuel hi hf1 hc_a hc_ga hfr H locs hH ls hl
    exact absurd hfuel (by omega)
  | succ k7 ih7 =>
    intro i wl f1 hfuel hi hf1 hc_a hc_ga hfr H locs hH ls hl
    refine lv_iload_n hx hb dX1_clearCup_7 rfl (lv_at hl 1 rfl) ?_
    refine lv_iconst (v := 4) hx hb dX1_clearCup_8 (by decide) ?_
    refine lv_icmp_ge (tgt := 25) hx hb dX1_clearCup_9 (by decide) (fun c9 => ?_) (fun c9 => ?_)
    · have c9 : 4 ≤ i := (nI_leI (a := 4) (b := i) (by omega) (by omega)).mp c9
      exact x_vret wl hx hb hr hlocks hK hH (by have e8 : f1 = zrf f 4 := (by rw [hf1, show i = 4 by omega]); subst e8; exact ⟨hc_a, hc_ga, hfr⟩) dX1_clearCup_25
    · have c9 : ¬ 4 ≤ i := fun zz => c9 ((nI_leI (a := 4) (b := i) (by omega) (by omega)).mpr zz)
      refine lv_aload_n hx hb dX1_clearCup_12 rfl (lv_at hl 0 rfl) ?_
      refine x_get (C := RX1) (T := TX1) (N := 6) hx hb hts hiX1 hown hK hH hc_a rfl 5 (by decide) hf27 (fun _ h => h) (v := .ref ga) rfl dX1_clearCup_13 ?_
      refine lv_iload_n hx hb dX1_clearCup_16 rfl (lv_at hl 1 rfl) ?_
      refine lv_iconst (v := 0) hx hb dX1_clearCup_17 (by decide) ?_
      refine Y_iast hx hb hK hH hc_ga i rfl (by omega) (by decide) dX1_clearCup_18 (fun H locs hH => ?_)
      have hH : xH G A s.heap H locs (va_up wl ga (some (.inl (G.2 0, 4, .inl (upd f1 i 0))))) := hH
      obtain ⟨w18, ew18⟩ : ∃ z, z = va_up wl ga (some (.inl (G.2 0, 4, .inl (upd f1 i 0)))) := ⟨_, rfl⟩
      rw [← ew18] at hH
      have hc_a : w18 a = some (.inr (2, [.int st, .int la, .int oy, .int 0, .int ro, .ref ga])) := by rw [ew18, show va_up wl ga _ a = wl a from if_neg ne_a_ga]; exact hc_a
      have hc_ga : w18 ga = some (.inl (G.2 0, 4, .inl (upd f1 i 0))) := by rw [ew18]; exact if_pos rfl
      have hfr : ∀ x, x ≠ a → x ≠ ga → w18 x = w x := fun x z_a z_ga => by rw [ew18]; exact (if_neg z_ga).trans (hfr x z_a z_ga)
      refine lv_iinc (v := nI (i + 1)) (lv' := [(1, .int (nI (i + 1))), (0, .ref a)]) hx hb dX1_clearCup_19 hl (k := 1) rfl (by exact nI_add _ 1) (by decide) rfl (fun ls hl => ?_)
      refine lv_goto (tgt := 7) hx hb dX1_clearCup_22 (by decide) ?_
      exact ih7 (i + 1) w18 (upd f1 i 0) (by omega) (by omega) (by rw [hf1]; exact zrf_s f i) (hc_a) (hc_ga) (hfr) _ _ hH ls (lv_sub hl [1, 0] rfl)

def tellF (st la oy has ro : Int32) (f : Nat → Int32) (what : Int32) : Int32 := if what = 0 then st else if what = 1 then la else if what = 2 then oy else if what = 3 then has else if what = 4 then f 0 else if what = 5 then f 1 else if what = 6 then f 2 else if what = 7 then f 3 else if what = 8 then ro else -1
set_option maxHeartbeats 4000000 in
set_option maxRecDepth 100000 in
theorem c_X1_tell (l : Launch) (G : XG) (A : Nat → Prop) (w : XW) (a ga : Nat) (st la oy has ro : Int32) (f : Nat → Int32) (hc_a : w a = some (.inr (2, [.int st, .int la, .int oy, .int has, .int ro, .ref ga]))) (hc_ga : w ga = some (.inl (G.2 0, 4, .inl f))) (what : Int32) : Met l yX1_tell wsX1_tell ({ frames := 0, cells := 0, slots := 0, locals := 0 }) (va_Pc [.ref a, .int what] (xP G A (w))) (va_Qi (fun (r : Int32) (u : XW) => r = tellF st la oy has ro f what ∧ u = w) (fun u t => xB G A (u) t) A) 0 0 A := by
  refine Met.ofW (cc := cX1_tell) (maxL := 2) (ret := (some .int)) (by decide) rfl ?_
  intro p e s m args below meth c s₁ B hml hv
  obtain ⟨rfl, hK, hH, hTt⟩ := hv
  have hx := B.exec
  have hb := B.bytes
  have hr := B.returns
  have hts := atoms_spec (ws := wsX1_tell) B.pre
  have hown : s.vm.findClass RX1 = some m.cls := findClass_of_methodNamed B.named
  have hlocks := B.notSynchronized
  have hiX1 : ∀ w ∈ wsX10, w ∈ wsX1_tell := by decide +kernel
  have hf9 := hts (.fieldLink RX1 9 "ResinWoods$Face" "streaks" "I") (by decide +kernel)
  have hf15 := hts (.fieldLink RX1 15 "ResinWoods$Face" "latest" "I") (by decide +kernel)
  have hf18 := hts (.fieldLink RX1 18 "ResinWoods$Face" "openedIn" "I") (by decide +kernel)
  have hf21 := hts (.fieldLink RX1 21 "ResinWoods$Face" "has" "I") (by decide +kernel)
  have hf24 := hts (.fieldLink RX1 24 "ResinWoods$Face" "ranOver" "I") (by decide +kernel)
  have hf27 := hts (.fieldLink RX1 27 "ResinWoods$Face" "ofGrade" "[I") (by decide +kernel)
  have hl := lv_entry ([.ref a, .int what]) (n := 2) (Nat.le_of_ble_eq_true rfl)
  rw [lg_entry_eq]
  generalize (lg_sl ([.ref a, .int what]) ++ List.replicate (2 - (lg_sl ([.ref a, .int what])).length) Slot.unset).toArray = ls at hl ⊢
  have hl : lv_has ls 2 [(0, .ref a), (1, .int what)] := hl
  have ne_a_ga : a ≠ ga := fun e9 => by rw [e9, hc_ga] at hc_a; cases hc_a
  have ne_ga_a : ga ≠ a := fun e9 => by rw [e9, hc_a] at hc_ga; cases hc_ga
  refine lv_iload_n hx hb dX1_tell_0 rfl (lv_at hl 1 rfl) ?_
  by_cases q0 : what = 0
  · subst q0
    refine lv_tableIn (tgt := 52) (off := 51) hx hb dX1_tell_1 (by decide) (by decide) (by decide) (by decide) ?_
    refine lv_aload_n hx hb dX1_tell_52 rfl (lv_at hl 0 rfl) ?_
    refine x_get (C := RX1) (T := TX1) (N := 6) hx hb hts hiX1 hown hK hH hc_a rfl 0 (by decide) hf9 (fun _ h => h) (v := .int st) rfl dX1_tell_53 ?_
    exact x_iret (v := st) w hx hb hr hlocks hK hH (⟨by unfold tellF; first | rfl | (rw [if_neg q0, if_neg q1, if_neg q2, if_neg q3, if_neg q4, if_neg q5, if_neg q6, if_neg q7, if_neg q8]), rfl⟩) dX1_tell_56
  by_cases q1 : what = 1
  · subst q1
    refine lv_tableIn (tgt := 57) (off := 56) hx hb dX1_tell_1 (by decide) (by decide) (by decide) (by decide) ?_
    refine lv_aload_n hx hb dX1_tell_57 rfl (lv_at hl 0 rfl) ?_
    refine x_get (C := RX1) (T := TX1) (N := 6) hx hb hts hiX1 hown hK hH hc_a rfl 1 (by decide) hf15 (fun _ h => h) (v := .int la) rfl dX1_tell_58 ?_
    exact x_iret (v := la) w hx hb hr hlocks hK hH (⟨by unfold tellF; first | rfl | (rw [if_neg q0, if_neg q1, if_neg q2, if_neg q3, if_neg q4, if_neg q5, if_neg q6, if_neg q7, if_neg q8]), rfl⟩) dX1_tell_61
  by_cases q2 : what = 2
  · subst q2
    refine lv_tableIn (tgt := 62) (off := 61) hx hb dX1_tell_1 (by decide) (by decide) (by decide) (by decide) ?_
    refine lv_aload_n hx hb dX1_tell_62 rfl (lv_at hl 0 rfl) ?_
    refine x_get (C := RX1) (T := TX1) (N := 6) hx hb hts hiX1 hown hK hH hc_a rfl 2 (by decide) hf18 (fun _ h => h) (v := .int oy) rfl dX1_tell_63 ?_
    exact x_iret (v := oy) w hx hb hr hlocks hK hH (⟨by unfold tellF; first | rfl | (rw [if_neg q0, if_neg q1, if_neg q2, if_neg q3, if_neg q4, if_neg q5, if_neg q6, if_neg q7, if_neg q8]), rfl⟩) dX1_tell_66
  by_cases q3 : what = 3
  · subst q3
    refine lv_tableIn (tgt := 67) (off := 66) hx hb dX1_tell_1 (by decide) (by decide) (by decide) (by decide) ?_
    refine lv_aload_n hx hb dX1_tell_67 rfl (lv_at hl 0 rfl) ?_
    refine x_get (C := RX1) (T := TX1) (N := 6) hx hb hts hiX1 hown hK hH hc_a rfl 3 (by decide) hf21 (fun _ h => h) (v := .int has) rfl dX1_tell_68 ?_
    exact x_iret (v := has) w hx hb hr hlocks hK hH (⟨by unfold tellF; first | rfl | (rw [if_neg q0, if_neg q1, if_neg q2, if_neg q3, if_neg q4, if_neg q5, if_neg q6, if_neg q7, if_neg q8]), rfl⟩) dX1_tell_71
  by_cases q4 : what = 4
  · subst q4
    refine lv_tableIn (tgt := 72) (off := 71) hx hb dX1_tell_1 (by decide) (by decide) (by decide) (by decide) ?_
    refine lv_aload_n hx hb dX1_tell_72 rfl (lv_at hl 0 rfl) ?_
    refine x_get (C := RX1) (T := TX1) (N := 6) hx hb hts hiX1 hown hK hH hc_a rfl 5 (by decide) hf27 (fun _ h => h) (v := .ref ga) rfl dX1_tell_73 ?_
    refine lv_iload_n hx hb dX1_tell_76 rfl (lv_at hl 1 rfl) ?_
    refine lv_iconst (v := 4) hx hb dX1_tell_77 (by decide) ?_
    refine N_isub hx hb 4 4 rfl rfl (by omega) dX1_tell_78 ?_
    refine Y_iald hx hb hK hH hc_ga (4 - 4) rfl (by omega) (by decide) dX1_tell_79 ?_
    exact x_iret (v := f (4 - 4)) w hx hb hr hlocks hK hH (⟨by unfold tellF; first | rfl | (rw [if_neg q0, if_neg q1, if_neg q2, if_neg q3, if_neg q4, if_neg q5, if_neg q6, if_neg q7, if_neg q8]), rfl⟩) dX1_tell_80
  by_cases q5 : what = 5
  · subst q5
    refine lv_tableIn (tgt := 72) (off := 71) hx hb dX1_tell_1 (by decide) (by decide) (by decide) (by decide) ?_
    refine lv_aload_n hx hb dX1_tell_72 rfl (lv_at hl 0 rfl) ?_
    refine x_get (C := RX1) (T := TX1) (N := 6) hx hb hts hiX1 hown hK hH hc_a rfl 5 (by decide) hf27 (fun _ h => h) (v := .ref ga) rfl dX1_tell_73 ?_
    refine lv_iload_n hx hb dX1_tell_76 rfl (lv_at hl 1 rfl) ?_
    refine lv_iconst (v := 4) hx hb dX1_tell_77 (by decide) ?_
    refine N_isub hx hb 5 4 rfl rfl (by omega) dX1_tell_78 ?_
    refine Y_iald hx hb hK hH hc_ga (5 - 4) rfl (by omega) (by decide) dX1_tell_79 ?_
    exact x_iret (v := f (5 - 4)) w hx hb hr hlocks hK hH (⟨by unfold tellF; first | rfl | (rw [if_neg q0, if_neg q1, if_neg q2, if_neg q3, if_neg q4, if_neg q5, if_neg q6, if_neg q7, if_neg q8]), rfl⟩) dX1_tell_80
  by_cases q6 : what = 6
  · subst q6
    refine lv_tableIn (tgt := 72) (off := 71) hx hb dX1_tell_1 (by decide) (by decide) (by decide) (by decide) ?_
    refine lv_aload_n hx hb dX1_tell_72 rfl (lv_at hl 0 rfl) ?_
    refine x_get (C := RX1) (T := TX1) (N := 6) hx hb hts hiX1 hown hK hH hc_a rfl 5 (by decide) hf27 (fun _ h => h) (v := .ref ga) rfl dX1_tell_73 ?_
    refine lv_iload_n hx hb dX1_tell_76 rfl (lv_at hl 1 rfl) ?_
    refine lv_iconst (v := 4) hx hb dX1_tell_77 (by decide) ?_
    refine N_isub hx hb 6 4 rfl rfl (by omega) dX1_tell_78 ?_
    refine Y_iald hx hb hK hH hc_ga (6 - 4) rfl (by omega) (by decide) dX1_tell_79 ?_
    exact x_iret (v := f (6 - 4)) w hx hb hr hlocks hK hH (⟨by unfold tellF; first | rfl | (rw [if_neg q0, if_neg q1, if_neg q2, if_neg q3, if_neg q4, if_neg q5, if_neg q6, if_neg q7, if_neg q8]), rfl⟩) dX1_tell_80
  by_cases q7 : what = 7
  · subst q7
    refine lv_tableIn (tgt := 72) (off := 71) hx hb dX1_tell_1 (by decide) (by decide) (by decide) (by decide) ?_
    refine lv_aload_n hx hb dX1_tell_72 rfl (lv_at hl 0 rfl) ?_
    refine x_get (C := RX1) (T := TX1) (N := 6) hx hb hts hiX1 hown hK hH hc_a rfl 5 (by decide) hf27 (fun _ h => h) (v := .ref ga) rfl dX1_tell_73 ?_
    refine lv_iload_n hx hb dX1_tell_76 rfl (lv_at hl 1 rfl) ?_
    refine lv_iconst (v := 4) hx hb dX1_tell_77 (by decide) ?_
    refine N_isub hx hb 7 4 rfl rfl (by omega) dX1_tell_78 ?_
    refine Y_iald hx hb hK hH hc_ga (7 - 4) rfl (by omega) (by decide) dX1_tell_79 ?_
    exact x_iret (v := f (7 - 4)) w hx hb hr hlocks hK hH (⟨by unfold tellF; first | rfl | (rw [if_neg q0, if_neg q1, if_neg q2, if_neg q3, if_neg q4, if_neg q5, if_neg q6, if_neg q7, if_neg q8]), rfl⟩) dX1_tell_80
  by_cases q8 : what = 8
  · subst q8
    refine lv_tableIn (tgt := 81) (off := 80) hx hb dX1_tell_1 (by decide) (by decide) (by decide) (by decide) ?_
    refine lv_aload_n hx hb dX1_tell_81 rfl (lv_at hl 0 rfl) ?_
    refine x_get (C := RX1) (T := TX1) (N := 6) hx hb hts hiX1 hown hK hH hc_a rfl 4 (by decide) hf24 (fun _ h => h) (v := .int ro) rfl dX1_tell_82 ?_
    exact x_iret (v := ro) w hx hb hr hlocks hK hH (⟨by unfold tellF; first | rfl | (rw [if_neg q0, if_neg q1, if_neg q2, if_neg q3, if_neg q4, if_neg q5, if_neg q6, if_neg q7, if_neg q8]), rfl⟩) dX1_tell_85
  refine lv_tableOut (tgt := 86) hx hb dX1_tell_1 (swOut 8 (fun k hk => by rcases (show k = 0 ∨ k = 1 ∨ k = 2 ∨ k = 3 ∨ k = 4 ∨ k = 5 ∨ k = 6 ∨ k = 7 ∨ k = 8 by omega) with rfl | rfl | rfl | rfl | rfl | rfl | rfl | rfl | rfl <;> assumption)) (by decide) ?_
  refine lv_iconst (v := (-1)) hx hb dX1_tell_86 (by decide) ?_
  exact x_iret (v := (-1)) w hx hb hr hlocks hK hH (⟨by unfold tellF; first | rfl | (rw [if_neg q0, if_neg q1, if_neg q2, if_neg q3, if_neg q4, if_neg q5, if_neg q6, if_neg q7, if_neg q8]), rfl⟩) dX1_tell_87


def goneB (stl pd : Int32) : Int32 := if stl = 0 then (if pd = 0 then 0 else 1) else 1
def fullB (has stl pd : Int32) : Int32 := if goneB stl pd = 0 then (if 1000 ≤ has then 1 else 0) else 1
theorem goneB_n (stl pd : Int32) : narrow .boolean (.int (goneB stl pd)) = .int (goneB stl pd) := by unfold goneB; split <;> (try split) <;> rfl
def gradC4 (has : Int32) (f : Nat → Int32) : Int32 := if 0 < has then l_sum (fun g => nI g * f g) 4 / has else 0

set_option maxHeartbeats 4000000 in
set_option maxRecDepth 100000 in
theorem c_X0_isGone (l : Launch) (G : XG) (A : Nat → Prop) (w : XW) (a : Nat) (wd ga ta : Nat) (has stl pd : Int32) (hc_a : w a = some (.inr (1, [.ref wd, .int has, .ref ga, .ref ta, .int stl, .int pd])))  : Met l yX0_isGone wsX0_isGone ({ frames := 0, cells := 0, slots := 0, locals := 0 }) (va_Pc [.ref a] (xP G A (w))) (va_Qi (fun (r : Int32) (u : XW) => r = goneB stl pd ∧ u = w) (fun u t => xB G A (u) t) A) 0 0 A := by
  refine Met.ofW (cc := cX0_isGone) (maxL := 1) (ret := (some .boolean)) (by decide) rfl ?_
  intro p e s m args below meth c s₁ B hml hv
  obtain ⟨rfl, hK, hH, hTt⟩ := hv
  have hx := B.exec
  have hb := B.bytes
  have hr := B.returns
  have hts := atoms_spec (ws := wsX0_isGone) B.pre
  have hown : s.vm.findClass RX0 = some m.cls := findClass_of_methodNamed B.named
  have hlocks := B.notSynchronized
  have hiX0 : ∀ w ∈ wsX00, w ∈ wsX0_isGone := by decide +kernel
  have hf22 := hts (.fieldLink RX0 22 "ResinWoods$Barrel" "isStilled" "Z") (by decide +kernel)
  have hf26 := hts (.fieldLink RX0 26 "ResinWoods$Barrel" "isPaid" "Z") (by decide +kernel)
  have hl := lv_entry ([.ref a]) (n := 1) (Nat.le_of_ble_eq_true rfl)
  rw [lg_entry_eq]
  generalize (lg_sl ([.ref a]) ++ List.replicate (1 - (lg_sl ([.ref a])).length) Slot.unset).toArray = ls at hl ⊢
  have hl : lv_has ls 1 [(0, .ref a)] := hl
  refine lv_aload_n hx hb dX0_isGone_0 rfl (lv_at hl 0 rfl) ?_
  refine x_get (C := RX0) (T := TX0) (N := 6) hx hb hts hiX0 hown hK hH hc_a rfl 4 (by decide) hf22 (fun _ h => h) (v := .int stl) rfl dX0_isGone_1 ?_
  refine lv_if_ne (tgt := 14) hx hb dX0_isGone_4 (by decide) (fun c4 => ?_) (fun c4 => ?_)
  · refine lv_iconst (v := 1) hx hb dX0_isGone_14 (by decide) ?_
    refine lv_goto (tgt := 19) hx hb dX0_isGone_15 (by decide) ?_
    exact x_zret (v := 1) w hx hb hr hlocks (by decide) hK hH (⟨by simp [goneB, *], rfl⟩) dX0_isGone_19
  · refine lv_aload_n hx hb dX0_isGone_7 rfl (lv_at hl 0 rfl) ?_
    refine x_get (C := RX0) (T := TX0) (N := 6) hx hb hts hiX0 hown hK hH hc_a rfl 5 (by decide) hf26 (fun _ h => h) (v := .int pd) rfl dX0_isGone_8 ?_
    refine lv_if_eq (tgt := 18) hx hb dX0_isGone_11 (by decide) (fun c11 => ?_) (fun c11 => ?_)
    · refine lv_iconst (v := 0) hx hb dX0_isGone_18 (by decide) ?_
      exact x_zret (v := 0) w hx hb hr hlocks (by decide) hK hH (⟨by simp [goneB, *], rfl⟩) dX0_isGone_19
    · refine lv_iconst (v := 1) hx hb dX0_isGone_14 (by decide) ?_
      refine lv_goto (tgt := 19) hx hb dX0_isGone_15 (by decide) ?_
      exact x_zret (v := 1) w hx hb hr hlocks (by decide) hK hH (⟨by simp [goneB, *], rfl⟩) dX0_isGone_19

set_option maxHeartbeats 4000000 in
set_option maxRecDepth 100000 in
theorem c_X0_isFull (l : Launch) (G : XG) (A : Nat → Prop) (w : XW) (a : Nat) (wd ga ta : Nat) (has stl pd : Int32) (hc_a : w a = some (.inr (1, [.ref wd, .int has, .ref ga, .ref ta, .int stl, .int pd])))  : Met l yX0_isFull wsX0_isFull ({ frames := 1, cells := 0, slots := 0, locals := 20 }) (va_Pc [.ref a] (xP G A (w))) (va_Qi (fun (r : Int32) (u : XW) => r = fullB has stl pd ∧ u = w) (fun u t => xB G A (u) t) A) 0 0 A := by
  refine Met.ofW (cc := cX0_isFull) (maxL := 1) (ret := (some .boolean)) (by decide) rfl ?_
  intro p e s m args below meth c s₁ B hml hv
  obtain ⟨rfl, hK, hH, hTt⟩ := hv
  have hx := B.exec
  have hb := B.bytes
  have hr := B.returns
  have hts := atoms_spec (ws := wsX0_isFull) B.pre
  have hown : s.vm.findClass RX0 = some m.cls := findClass_of_methodNamed B.named
  have hlocks := B.notSynchronized
  have hiX0 : ∀ w ∈ wsX00, w ∈ wsX0_isFull := by decide +kernel
  have hf9 := hts (.fieldLink RX0 9 "ResinWoods$Barrel" "has" "I") (by decide +kernel)
  have hl := lv_entry ([.ref a]) (n := 1) (Nat.le_of_ble_eq_true rfl)
  rw [lg_entry_eq]
  generalize (lg_sl ([.ref a]) ++ List.replicate (1 - (lg_sl ([.ref a])).length) Slot.unset).toArray = ls at hl ⊢
  have hl : lv_has ls 1 [(0, .ref a)] := hl
  refine lv_aload_n hx hb dX0_isFull_0 rfl (lv_at hl 0 rfl) ?_
  refine x_calli (va_runV (As := []) (rest := []) ⟨hx, hb, hml, hown, hts⟩ (c_X0_isGone l G A _ a wd ga ta has stl pd hc_a) (cwV 0 hts gX0_isFull_X0_isGone rfl rfl rfl (by decide +kernel) ⟨Nat.le_of_ble_eq_true rfl, Nat.le_of_ble_eq_true rfl⟩) (x_preV hK hH hTt (hc_a) rfl []) rfl rfl hl.1 rfl (lv_room (Nat.le_of_ble_eq_true rfl)) dX0_isFull_1 ⟨Nat.le_of_ble_eq_true rfl, Nat.le_of_ble_eq_true rfl⟩) hH (fun r1 u H locs hp hH => ?_)
  obtain ⟨rfl, hu9⟩ := hp
  rw [hu9] at hH
  refine lv_if_ne (tgt := 17) hx hb dX0_isFull_4 (by decide) (fun c4 => ?_) (fun c4 => ?_)
  · refine lv_iconst (v := 1) hx hb dX0_isFull_17 (by decide) ?_
    refine lv_goto (tgt := 22) hx hb dX0_isFull_18 (by decide) ?_
    exact x_zret (v := 1) w hx hb hr hlocks (by decide) hK hH (⟨by simp [fullB, *], rfl⟩) dX0_isFull_22
  · refine lv_aload_n hx hb dX0_isFull_7 rfl (lv_at hl 0 rfl) ?_
    refine x_get (C := RX0) (T := TX0) (N := 6) hx hb hts hiX0 hown hK hH hc_a rfl 1 (by decide) hf9 (fun _ h => h) (v := .int has) rfl dX0_isFull_8 ?_
    refine lv_sipush (v := 1000) hx hb dX0_isFull_11 (by decide) ?_
    refine lv_icmp_lt (tgt := 21) hx hb dX0_isFull_14 (by decide) (fun c14 => ?_) (fun c14 => ?_)
    · refine lv_iconst (v := 0) hx hb dX0_isFull_21 (by decide) ?_
      exact x_zret (v := 0) w hx hb hr hlocks (by decide) hK hH (⟨by simp [fullB, *], rfl⟩) dX0_isFull_22
    · refine lv_iconst (v := 1) hx hb dX0_isFull_17 (by decide) ?_
      refine lv_goto (tgt := 22) hx hb dX0_isFull_18 (by decide) ?_
      exact x_zret (v := 1) w hx hb hr hlocks (by decide) hK hH (⟨by simp [fullB, *], rfl⟩) dX0_isFull_22

set_option maxHeartbeats 4000000 in
set_option maxRecDepth 100000 in
theorem c_X0_room (l : Launch) (G : XG) (A : Nat → Prop) (w : XW) (a : Nat) (wd ga ta : Nat) (has stl pd : Int32) (hc_a : w a = some (.inr (1, [.ref wd, .int has, .ref ga, .ref ta, .int stl, .int pd])))  : Met l yX0_room wsX0_room ({ frames := 0, cells := 0, slots := 0, locals := 0 }) (va_Pc [.ref a] (xP G A (w))) (va_Qi (fun (r : Int32) (u : XW) => r = 1000 - has ∧ u = w) (fun u t => xB G A (u) t) A) 0 0 A := by
  refine Met.ofW (cc := cX0_room) (maxL := 1) (ret := (some .int)) (by decide) rfl ?_
  intro p e s m args below meth c s₁ B hml hv
  obtain ⟨rfl, hK, hH, hTt⟩ := hv
  have hx := B.exec
  have hb := B.bytes
  have hr := B.returns
  have hts := atoms_spec (ws := wsX0_room) B.pre
  have hown : s.vm.findClass RX0 = some m.cls := findClass_of_methodNamed B.named
  have hlocks := B.notSynchronized
  have hiX0 : ∀ w ∈ wsX00, w ∈ wsX0_room := by decide +kernel
  have hf9 := hts (.fieldLink RX0 9 "ResinWoods$Barrel" "has" "I") (by decide +kernel)
  have hl := lv_entry ([.ref a]) (n := 1) (Nat.le_of_ble_eq_true rfl)
  rw [lg_entry_eq]
  generalize (lg_sl ([.ref a]) ++ List.replicate (1 - (lg_sl ([.ref a])).length) Slot.unset).toArray = ls at hl ⊢
  have hl : lv_has ls 1 [(0, .ref a)] := hl
  refine lv_sipush (v := 1000) hx hb dX0_room_0 (by decide) ?_
  refine lv_aload_n hx hb dX0_room_3 rfl (lv_at hl 0 rfl) ?_
  refine x_get (C := RX0) (T := TX0) (N := 6) hx hb hts hiX0 hown hK hH hc_a rfl 1 (by decide) hf9 (fun _ h => h) (v := .int has) rfl dX0_room_4 ?_
  refine lv_isub hx hb dX0_room_7 ?_
  exact x_iret (v := 1000 - has) w hx hb hr hlocks hK hH (⟨rfl, rfl⟩) dX0_room_8

set_option maxHeartbeats 4000000 in
set_option maxRecDepth 100000 in
theorem c_X0_spiritOf (l : Launch) (G : XG) (A : Nat → Prop) (w : XW) (a : Nat) (wd ga ta : Nat) (has stl pd : Int32) (hc_a : w a = some (.inr (1, [.ref wd, .int has, .ref ga, .ref ta, .int stl, .int pd])))  : Met l yX0_spiritOf wsX0_spiritOf ({ frames := 0, cells := 0, slots := 0, locals := 0 }) (va_Pc [.ref a] (xP G A (w))) (va_Qi (fun (r : Int32) (u : XW) => r = has / 5 ∧ u = w) (fun u t => xB G A (u) t) A) 0 0 A := by
  refine Met.ofW (cc := cX0_spiritOf) (maxL := 1) (ret := (some .int)) (by decide) rfl ?_
  intro p e s m args below meth c s₁ B hml hv
  obtain ⟨rfl, hK, hH, hTt⟩ := hv
  have hx := B.exec
  have hb := B.bytes
  have hr := B.returns
  have hts := atoms_spec (ws := wsX0_spiritOf) B.pre
  have hown : s.vm.findClass RX0 = some m.cls := findClass_of_methodNamed B.named
  have hlocks := B.notSynchronized
  have hiX0 : ∀ w ∈ wsX00, w ∈ wsX0_spiritOf := by decide +kernel
  have hf9 := hts (.fieldLink RX0 9 "ResinWoods$Barrel" "has" "I") (by decide +kernel)
  have hl := lv_entry ([.ref a]) (n := 1) (Nat.le_of_ble_eq_true rfl)
  rw [lg_entry_eq]
  generalize (lg_sl ([.ref a]) ++ List.replicate (1 - (lg_sl ([.ref a])).length) Slot.unset).toArray = ls at hl ⊢
  have hl : lv_has ls 1 [(0, .ref a)] := hl
  refine lv_aload_n hx hb dX0_spiritOf_0 rfl (lv_at hl 0 rfl) ?_
  refine x_get (C := RX0) (T := TX0) (N := 6) hx hb hts hiX0 hown hK hH hc_a rfl 1 (by decide) hf9 (fun _ h => h) (v := .int has) rfl dX0_spiritOf_1 ?_
  refine lv_iconst (v := 5) hx hb dX0_spiritOf_4 (by decide) ?_
  refine lv_idiv hx hb dX0_spiritOf_5 (by decide) ?_
  exact x_iret (v := has / 5) w hx hb hr hlocks hK hH (⟨rfl, rfl⟩) dX0_spiritOf_6

set_option maxHeartbeats 4000000 in
set_option maxRecDepth 100000 in
theorem c_X0_gradeOf (l : Launch) (G : XG) (A : Nat → Prop) (w : XW) (a ga : Nat) (wd ta : Nat) (has stl pd : Int32) (f : Nat → Int32) (hc_a : w a = some (.inr (1, [.ref wd, .int has, .ref ga, .ref ta, .int stl, .int pd]))) (hc_ga : w ga = some (.inl (G.2 0, 4, .inl f)))  : Met l yX0_gradeOf wsX0_gradeOf ({ frames := 0, cells := 0, slots := 0, locals := 0 }) (va_Pc [.ref a] (xP G A (w))) (va_Qi (fun (r : Int32) (u : XW) => r = gradC4 has f ∧ u = w) (fun u t => xB G A (u) t) A) 0 0 A := by
  refine Met.ofW (cc := cX0_gradeOf) (maxL := 3) (ret := (some .int)) (by decide) rfl ?_
  intro p e s m args below meth c s₁ B hml hv
  obtain ⟨rfl, hK, hH, hTt⟩ := hv
  have hx := B.exec
  have hb := B.bytes
  have hr := B.returns
  have hts := atoms_spec (ws := wsX0_gradeOf) B.pre
  have hown : s.vm.findClass RX0 = some m.cls := findClass_of_methodNamed B.named
  have hlocks := B.notSynchronized
  have hiX0 : ∀ w ∈ wsX00, w ∈ wsX0_gradeOf := by decide +kernel
  have hf9 := hts (.fieldLink RX0 9 "ResinWoods$Barrel" "has" "I") (by decide +kernel)
  have hf15 := hts (.fieldLink RX0 15 "ResinWoods$Barrel" "ofGrade" "[I") (by decide +kernel)
  have hl := lv_entry ([.ref a]) (n := 3) (Nat.le_of_ble_eq_true rfl)
  rw [lg_entry_eq]
  generalize (lg_sl ([.ref a]) ++ List.replicate (3 - (lg_sl ([.ref a])).length) Slot.unset).toArray = ls at hl ⊢
  have hl : lv_has ls 3 [(0, .ref a)] := hl
  have ne_a_ga : a ≠ ga := fun e9 => by rw [e9, hc_ga] at hc_a; cases hc_a
  have ne_ga_a : ga ≠ a := fun e9 => by rw [e9, hc_a] at hc_ga; cases hc_ga
  refine lv_iconst (v := 0) hx hb dX0_gradeOf_0 (by decide) ?_
  refine lv_istore_n (lv' := [(1, .int 0), (0, .ref a)]) hx hb dX0_gradeOf_1 rfl hl (by decide) rfl (fun ls hl => ?_)
  refine lv_iconst (v := 0) hx hb dX0_gradeOf_2 (by decide) ?_
  refine lv_istore_n (lv' := [(2, .int 0), (1, .int 0), (0, .ref a)]) hx hb dX0_gradeOf_3 rfl hl (by decide) rfl (fun ls hl => ?_)
  suffices loop4 : ∀ (k4 : Nat) (g : Nat) (ac : Int32), (4 < g + k4) → (g ≤ 4) → (ac = l_sum (fun g => nI g * f g) g) → ∀ (H : Heap) (locs : List Loc), xH G A s.heap H locs (w) → ∀ (ls : Array Slot), lv_has ls 3 [(0, .ref a), (1, .int ac), (2, .int (nI g))] → W p l e (headSpec wsX0_gradeOf _).room s m _ below meth c H locs 0 0 (MQ below _ _ s 0 0 A) (F0 m 4 ls []) from
    loop4 5 0 0 (by omega) (by omega) (rfl) _ _ hH ls (lv_sub hl [2, 1, 0] rfl)
  intro k4
  induction k4 with
  | zero =>
    intro g ac hfuel hg hac H locs hH ls hl
    exact absurd hfuel (by omega)
  | succ k4 ih4 =>
    intro g ac hfuel hg hac H locs hH ls hl
    refine lv_iload_n hx hb dX0_gradeOf_4 rfl (lv_at hl 2 rfl) ?_
    refine lv_iconst (v := 4) hx hb dX0_gradeOf_5 (by decide) ?_
    refine lv_icmp_ge (tgt := 26) hx hb dX0_gradeOf_6 (by decide) (fun c6 => ?_) (fun c6 => ?_)
    · have c6 : 4 ≤ g := (nI_leI (a := 4) (b := g) (by omega) (by omega)).mp c6
      refine lv_aload_n hx hb dX0_gradeOf_26 rfl (lv_at hl 0 rfl) ?_
      refine x_get (C := RX0) (T := TX0) (N := 6) hx hb hts hiX0 hown hK hH hc_a rfl 1 (by decide) hf9 (fun _ h => h) (v := .int has) rfl dX0_gradeOf_27 ?_
      refine lv_if_gt (tgt := 37) hx hb dX0_gradeOf_30 (by decide) (fun c30 => ?_) (fun c30 => ?_)
      · refine lv_iload_n hx hb dX0_gradeOf_37 rfl (lv_at hl 1 rfl) ?_
        refine lv_aload_n hx hb dX0_gradeOf_38 rfl (lv_at hl 0 rfl) ?_
        refine x_get (C := RX0) (T := TX0) (N := 6) hx hb hts hiX0 hown hK hH hc_a rfl 1 (by decide) hf9 (fun _ h => h) (v := .int has) rfl dX0_gradeOf_39 ?_
        refine lv_idiv hx hb dX0_gradeOf_42 (by intro z; rw [z] at c30; exact absurd c30 (by decide)) ?_
        exact x_iret (v := ac / has) w hx hb hr hlocks hK hH (⟨by unfold gradC4; first | (rw [if_neg c30]; done) | (rw [if_pos c30, hac, show g = 4 by omega]), rfl⟩) dX0_gradeOf_43
      · refine lv_iconst (v := 0) hx hb dX0_gradeOf_33 (by decide) ?_
        refine lv_goto (tgt := 43) hx hb dX0_gradeOf_34 (by decide) ?_
        exact x_iret (v := 0) w hx hb hr hlocks hK hH (⟨by unfold gradC4; first | (rw [if_neg c30]; done) | (rw [if_pos c30, hac, show g = 4 by omega]), rfl⟩) dX0_gradeOf_43
    · have c6 : ¬ 4 ≤ g := fun zz => c6 ((nI_leI (a := 4) (b := g) (by omega) (by omega)).mpr zz)
      refine lv_iload_n hx hb dX0_gradeOf_9 rfl (lv_at hl 1 rfl) ?_
      refine lv_iload_n hx hb dX0_gradeOf_10 rfl (lv_at hl 2 rfl) ?_
      refine lv_aload_n hx hb dX0_gradeOf_11 rfl (lv_at hl 0 rfl) ?_
      refine x_get (C := RX0) (T := TX0) (N := 6) hx hb hts hiX0 hown hK hH hc_a rfl 2 (by decide) hf15 (fun _ h => h) (v := .ref ga) rfl dX0_gradeOf_12 ?_
      refine lv_iload_n hx hb dX0_gradeOf_15 rfl (lv_at hl 2 rfl) ?_
      refine Y_iald hx hb hK hH hc_ga g rfl (by omega) (by decide) dX0_gradeOf_16 ?_
      refine lv_imul hx hb dX0_gradeOf_17 ?_
      refine lv_iadd hx hb dX0_gradeOf_18 ?_
      refine lv_istore_n (lv' := [(1, .int (ac + ((nI g) * (f g)))), (0, .ref a), (2, .int (nI g))]) hx hb dX0_gradeOf_19 rfl hl (by decide) rfl (fun ls hl => ?_)
      refine lv_iinc (v := nI (g + 1)) (lv' := [(2, .int (nI (g + 1))), (1, .int (ac + ((nI g) * (f g)))), (0, .ref a)]) hx hb dX0_gradeOf_20 hl (k := 2) rfl (by exact nI_add _ 1) (by decide) rfl (fun ls hl => ?_)
      refine lv_goto (tgt := 4) hx hb dX0_gradeOf_23 (by decide) ?_
      exact ih4 (g + 1) (ac + ((nI g) * (f g))) (by omega) (by omega) (by rw [hac]; rfl) _ _ hH ls (lv_sub hl [2, 1, 0] rfl)

set_option maxHeartbeats 4000000 in
set_option maxRecDepth 100000 in
theorem c_X0_fill (l : Launch) (G : XG) (A : Nat → Prop) (w : XW) (a ga ta : Nat) (wd : Nat) (has stl pd : Int32) (f t : Nat → Int32) (hc_a : w a = some (.inr (1, [.ref wd, .int has, .ref ga, .ref ta, .int stl, .int pd]))) (hc_ga : w ga = some (.inl (G.2 0, 4, .inl f))) (hc_ta : w ta = some (.inl (G.2 0, 60, .inl t))) (tr g : Nat) (am : Int32) (htr : tr < 60) (hg : g < 4) (ne_ga_ta : ga ≠ ta) : Met l yX0_fill wsX0_fill ({ frames := 1, cells := 0, slots := 0, locals := 21 }) (va_Pc [.ref a, .int (nI tr), .int (nI g), .int am] (xP G A (w))) (va_Qi (fun (r : Int32) (u : XW) => r = minI am (1000 - has) ∧ u a = some (.inr (1, [.ref wd, .int (has + minI am (1000 - has)), .ref ga, .ref ta, .int stl, .int pd])) ∧ u ga = some (.inl (G.2 0, 4, .inl (upd f g (f g + minI am (1000 - has))))) ∧ u ta = some (.inl (G.2 0, 60, .inl (upd t tr (t tr + minI am (1000 - has))))) ∧ ∀ y, y ≠ a → y ≠ ga → y ≠ ta → u y = w y) (fun u t => xB G A (u) t) A) 0 0 A := by
  refine Met.ofW (cc := cX0_fill) (maxL := 5) (ret := (some .int)) (by decide) rfl ?_
  intro p e s m args below meth c s₁ B hml hv
  obtain ⟨rfl, hK, hH, hTt⟩ := hv
  have hx := B.exec
  have hb := B.bytes
  have hr := B.returns
  have hts := atoms_spec (ws := wsX0_fill) B.pre
  have hown : s.vm.findClass RX0 = some m.cls := findClass_of_methodNamed B.named
  have hlocks := B.notSynchronized
  have hiX0 : ∀ w ∈ wsX00, w ∈ wsX0_fill := by decide +kernel
  have hf9 := hts (.fieldLink RX0 9 "ResinWoods$Barrel" "has" "I") (by decide +kernel)
  have hf15 := hts (.fieldLink RX0 15 "ResinWoods$Barrel" "ofGrade" "[I") (by decide +kernel)
  have hf19 := hts (.fieldLink RX0 19 "ResinWoods$Barrel" "ofTree" "[I") (by decide +kernel)
  have hl := lv_entry ([.ref a, .int (nI tr), .int (nI g), .int am]) (n := 5) (Nat.le_of_ble_eq_true rfl)
  rw [lg_entry_eq]
  generalize (lg_sl ([.ref a, .int (nI tr), .int (nI g), .int am]) ++ List.replicate (5 - (lg_sl ([.ref a, .int (nI tr), .int (nI g), .int am])).length) Slot.unset).toArray = ls at hl ⊢
  have hl : lv_has ls 5 [(0, .ref a), (1, .int (nI tr)), (2, .int (nI g)), (3, .int am)] := hl
  have ne_a_ga : a ≠ ga := fun e9 => by rw [e9, hc_ga] at hc_a; cases hc_a
  have ne_a_ta : a ≠ ta := fun e9 => by rw [e9, hc_ta] at hc_a; cases hc_a
  have ne_ga_a : ga ≠ a := fun e9 => by rw [e9, hc_a] at hc_ga; cases hc_ga
  have ne_ta_a : ta ≠ a := fun e9 => by rw [e9, hc_a] at hc_ta; cases hc_ta
  have ne_ta_ga : ta ≠ ga := fun e9 => ne_ga_ta e9.symm
  refine lv_iload_n hx hb dX0_fill_0 rfl (lv_at hl 3 rfl) ?_
  refine lv_aload_n hx hb dX0_fill_1 rfl (lv_at hl 0 rfl) ?_
  refine x_calli (va_runV (As := []) (rest := [.int am]) ⟨hx, hb, hml, hown, hts⟩ (c_X0_room l G A _ a wd ga ta has stl pd hc_a) (cwV 0 hts gX0_fill_X0_room rfl rfl rfl (by decide +kernel) ⟨Nat.le_of_ble_eq_true rfl, Nat.le_of_ble_eq_true rfl⟩) (x_preV hK hH hTt (hc_a) rfl []) rfl rfl hl.1 rfl (lv_room (Nat.le_of_ble_eq_true rfl)) dX0_fill_2 ⟨Nat.le_of_ble_eq_true rfl, Nat.le_of_ble_eq_true rfl⟩) hH (fun r2 u H locs hp hH => ?_)
  obtain ⟨rfl, hu9⟩ := hp
  rw [hu9] at hH
  refine va_mmin hx hb (by rw [hml]; exact hl.1.symm) hown (hts (.methodLink RX0 52 Lib.Math.min.name) (by decide +kernel)) (hts (.static Lib.Math.min.name) (by decide +kernel)) (hts (.initialized "java/lang/Math") (by decide +kernel)) (hts (.code Lib.Math.min.name Lib.Math.min.code 2 (some .int)) (by decide +kernel)) (Nat.le_of_ble_eq_true rfl) (Nat.le_of_ble_eq_true rfl) (Nat.le_of_ble_eq_true rfl) (Nat.le_of_ble_eq_true rfl) dX0_fill_5 ?_
  refine lv_topi (fun v8 ev8 => ?_)
  refine lv_istore (lv' := [(4, .int v8), (0, .ref a), (1, .int (nI tr)), (2, .int (nI g)), (3, .int am)]) hx hb dX0_fill_8 hl (by decide) rfl (fun ls hl => ?_)
  refine lv_aload_n hx hb dX0_fill_10 rfl (lv_at hl 1 rfl) ?_
  refine lv_dup hx hb dX0_fill_11 rfl ?_
  refine x_get (C := RX0) (T := TX0) (N := 6) hx hb hts hiX0 hown hK hH hc_a rfl 1 (by decide) hf9 (fun _ h => h) (v := .int has) rfl dX0_fill_12 ?_
  refine lv_iload hx hb dX0_fill_15 (lv_at hl 0 rfl) ?_
  refine lv_iadd hx hb dX0_fill_17 ?_
  refine x_put (C := RX0) (T := TX0) (N := 6) (ty := .int) hx hb hts hiX0 tyX0 tyX0_ok nmX0 hown hK hH hc_a rfl 1 (by decide) hf9 (fun _ h => h) rfl (by decide +kernel) rfl rfl (Nat.le_of_ble_eq_true rfl) dX0_fill_18 (fun H locs hH => ?_)
  have hH : xH G A s.heap H locs (va_up w a (some (.inr (1, [.ref wd, .int (has + v8), .ref ga, .ref ta, .int stl, .int pd])))) := hH
  obtain ⟨w18, ew18⟩ : ∃ z, z = va_up w a (some (.inr (1, [.ref wd, .int (has + v8), .ref ga, .ref ta, .int stl, .int pd]))) := ⟨_, rfl⟩
  rw [← ew18] at hH
  have hc_a : w18 a = some (.inr (1, [.ref wd, .int (has + v8), .ref ga, .ref ta, .int stl, .int pd])) := by rw [ew18]; exact if_pos rfl
  have hc_ga : w18 ga = some (.inl (G.2 0, 4, .inl f)) := by rw [ew18, show va_up w a _ ga = w ga from if_neg ne_ga_a]; exact hc_ga
  have hc_ta : w18 ta = some (.inl (G.2 0, 60, .inl t)) := by rw [ew18, show va_up w a _ ta = w ta from if_neg ne_ta_a]; exact hc_ta
  have hfr : ∀ x, x ≠ a → x ≠ ga → x ≠ ta → w18 x = w x := fun x z_a z_ga z_ta => by rw [ew18]; exact if_neg z_a
  refine lv_aload_n hx hb dX0_fill_21 rfl (lv_at hl 1 rfl) ?_
  refine x_get (C := RX0) (T := TX0) (N := 6) hx hb hts hiX0 hown hK hH hc_a rfl 2 (by decide) hf15 (fun _ h => h) (v := .ref ga) rfl dX0_fill_22 ?_
  refine lv_iload_n hx hb dX0_fill_25 rfl (lv_at hl 3 rfl) ?_
  refine lv_dup2_11 hx hb dX0_fill_26 rfl rfl ?_
  refine Y_iald hx hb hK hH hc_ga g rfl (by omega) (by decide) dX0_fill_27 ?_
  refine lv_iload hx hb dX0_fill_28 (lv_at hl 0 rfl) ?_
  refine lv_iadd hx hb dX0_fill_30 ?_
  refine Y_iast hx hb hK hH hc_ga g rfl (by omega) (by decide) dX0_fill_31 (fun H locs hH => ?_)
  have hH : xH G A s.heap H locs (va_up w18 ga (some (.inl (G.2 0, 4, .inl (upd f g ((f g) + v8)))))) := hH
  obtain ⟨w31, ew31⟩ : ∃ z, z = va_up w18 ga (some (.inl (G.2 0, 4, .inl (upd f g ((f g) + v8))))) := ⟨_, rfl⟩
  rw [← ew31] at hH
  have hc_a : w31 a = some (.inr (1, [.ref wd, .int (has + v8), .ref ga, .ref ta, .int stl, .int pd])) := by rw [ew31, show va_up w18 ga _ a = w18 a from if_neg ne_a_ga]; exact hc_a
  have hc_ga : w31 ga = some (.inl (G.2 0, 4, .inl (upd f g ((f g) + v8)))) := by rw [ew31]; exact if_pos rfl
  have hc_ta : w31 ta = some (.inl (G.2 0, 60, .inl t)) := by rw [ew31, show va_up w18 ga _ ta = w18 ta from if_neg ne_ta_ga]; exact hc_ta
  have hfr : ∀ x, x ≠ a → x ≠ ga → x ≠ ta → w31 x = w x := fun x z_a z_ga z_ta => by rw [ew31]; exact (if_neg z_ga).trans (hfr x z_a z_ga z_ta)
  refine lv_aload_n hx hb dX0_fill_32 rfl (lv_at hl 1 rfl) ?_
  refine x_get (C := RX0) (T := TX0) (N := 6) hx hb hts hiX0 hown hK hH hc_a rfl 3 (by decide) hf19 (fun _ h => h) (v := .ref ta) rfl dX0_fill_33 ?_
  refine lv_iload_n hx hb dX0_fill_36 rfl (lv_at hl 2 rfl) ?_
  refine lv_dup2_11 hx hb dX0_fill_37 rfl rfl ?_
  refine Y_iald hx hb hK hH hc_ta tr rfl (by omega) (by decide) dX0_fill_38 ?_
  refine lv_iload hx hb dX0_fill_39 (lv_at hl 0 rfl) ?_
  refine lv_iadd hx hb dX0_fill_41 ?_
  refine Y_iast hx hb hK hH hc_ta tr rfl (by omega) (by decide) dX0_fill_42 (fun H locs hH => ?_)
  have hH : xH G A s.heap H locs (va_up w31 ta (some (.inl (G.2 0, 60, .inl (upd t tr ((t tr) + v8)))))) := hH
  obtain ⟨w42, ew42⟩ : ∃ z, z = va_up w31 ta (some (.inl (G.2 0, 60, .inl (upd t tr ((t tr) + v8))))) := ⟨_, rfl⟩
  rw [← ew42] at hH
  have hc_a : w42 a = some (.inr (1, [.ref wd, .int (has + v8), .ref ga, .ref ta, .int stl, .int pd])) := by rw [ew42, show va_up w31 ta _ a = w31 a from if_neg ne_a_ta]; exact hc_a
  have hc_ga : w42 ga = some (.inl (G.2 0, 4, .inl (upd f g ((f g) + v8)))) := by rw [ew42, show va_up w31 ta _ ga = w31 ga from if_neg ne_ga_ta]; exact hc_ga
  have hc_ta : w42 ta = some (.inl (G.2 0, 60, .inl (upd t tr ((t tr) + v8)))) := by rw [ew42]; exact if_pos rfl
  have hfr : ∀ x, x ≠ a → x ≠ ga → x ≠ ta → w42 x = w x := fun x z_a z_ga z_ta => by rw [ew42]; exact (if_neg z_ta).trans (hfr x z_a z_ga z_ta)
  refine lv_iload hx hb dX0_fill_43 (lv_at hl 0 rfl) ?_
  exact x_iret (v := v8) w42 hx hb hr hlocks hK hH (by have e9 : v8 = minI am (1000 - has) := ev8; subst e9; exact ⟨rfl, hc_a, hc_ga, hc_ta, hfr⟩) dX0_fill_45

set_option maxHeartbeats 4000000 in
set_option maxRecDepth 100000 in
theorem c_X5_letFor (l : Launch) (G : XG) (A : Nat → Prop) (w : XW) (a : Nat) (nr lt rn em pa : Int32) (lb : Value) (hc_a : w a = some (.inr (6, [.int nr, .int lt, .int rn, .int em, .int pa, lb]))) (q : Int32) : Met l yX5_letFor wsX5_letFor ({ frames := 0, cells := 0, slots := 0, locals := 0 }) (va_Pc [.ref a, .int q] (xP G A (w))) (va_Qv (fun (u : XW) => u a = some (.inr (6, [.int nr, .int 1, .int q, .int 0, .int 0, lb])) ∧ ∀ y, y ≠ a → u y = w y) (fun u t => xB G A (u) t) A) 0 0 A := by
  refine Met.ofW (cc := cX5_letFor) (maxL := 2) (ret := none) (by decide) rfl ?_
  intro p e s m args below meth c s₁ B hml hv
  obtain ⟨rfl, hK, hH, hTt⟩ := hv
  have hx := B.exec
  have hb := B.bytes
  have hr := B.returns
  have hts := atoms_spec (ws := wsX5_letFor) B.pre
  have hown : s.vm.findClass RX5 = some m.cls := findClass_of_methodNamed B.named
  have hlocks := B.notSynchronized
  have hiX5 : ∀ w ∈ wsX50, w ∈ wsX5_letFor := by decide +kernel
  have hf7 := hts (.fieldLink RX5 7 "ResinWoods$Wood" "isLet" "Z") (by decide +kernel)
  have hf13 := hts (.fieldLink RX5 13 "ResinWoods$Wood" "rent" "I") (by decide +kernel)
  have hf17 := hts (.fieldLink RX5 17 "ResinWoods$Wood" "emptied" "I") (by decide +kernel)
  have hf20 := hts (.fieldLink RX5 20 "ResinWoods$Wood" "paid" "I") (by decide +kernel)
  have hl := lv_entry ([.ref a, .int q]) (n := 2) (Nat.le_of_ble_eq_true rfl)
  rw [lg_entry_eq]
  generalize (lg_sl ([.ref a, .int q]) ++ List.replicate (2 - (lg_sl ([.ref a, .int q])).length) Slot.unset).toArray = ls at hl ⊢
  have hl : lv_has ls 2 [(0, .ref a), (1, .int q)] := hl
  refine lv_aload_n hx hb dX5_letFor_0 rfl (lv_at hl 0 rfl) ?_
  refine lv_iconst (v := 1) hx hb dX5_letFor_1 (by decide) ?_
  refine x_put (C := RX5) (T := TX5) (N := 6) (ty := .boolean) hx hb hts hiX5 tyX5 tyX5_ok nmX5 hown hK hH hc_a rfl 1 (by decide) hf7 (fun _ h => h) rfl (by decide +kernel) rfl rfl (Nat.le_of_ble_eq_true rfl) dX5_letFor_2 (fun H locs hH => ?_)
  have hH : xH G A s.heap H locs (va_up w a (some (.inr (6, [.int nr, .int 1, .int rn, .int em, .int pa, lb])))) := hH
  obtain ⟨w2, ew2⟩ : ∃ z, z = va_up w a (some (.inr (6, [.int nr, .int 1, .int rn, .int em, .int pa, lb]))) := ⟨_, rfl⟩
  rw [← ew2] at hH
  have hc_a : w2 a = some (.inr (6, [.int nr, .int 1, .int rn, .int em, .int pa, lb])) := by rw [ew2]; exact if_pos rfl
  have hfr : ∀ x, x ≠ a → w2 x = w x := fun x z_a => by rw [ew2]; exact if_neg z_a
  refine lv_aload_n hx hb dX5_letFor_5 rfl (lv_at hl 0 rfl) ?_
  refine lv_iload_n hx hb dX5_letFor_6 rfl (lv_at hl 1 rfl) ?_
  refine x_put (C := RX5) (T := TX5) (N := 6) (ty := .int) hx hb hts hiX5 tyX5 tyX5_ok nmX5 hown hK hH hc_a rfl 2 (by decide) hf13 (fun _ h => h) rfl (by decide +kernel) rfl rfl (Nat.le_of_ble_eq_true rfl) dX5_letFor_7 (fun H locs hH => ?_)
  have hH : xH G A s.heap H locs (va_up w2 a (some (.inr (6, [.int nr, .int 1, .int q, .int em, .int pa, lb])))) := hH
  obtain ⟨w7, ew7⟩ : ∃ z, z = va_up w2 a (some (.inr (6, [.int nr, .int 1, .int q, .int em, .int pa, lb]))) := ⟨_, rfl⟩
  rw [← ew7] at hH
  have hc_a : w7 a = some (.inr (6, [.int nr, .int 1, .int q, .int em, .int pa, lb])) := by rw [ew7]; exact if_pos rfl
  have hfr : ∀ x, x ≠ a → w7 x = w x := fun x z_a => by rw [ew7]; exact (if_neg z_a).trans (hfr x z_a)
  refine lv_aload_n hx hb dX5_letFor_10 rfl (lv_at hl 0 rfl) ?_
  refine lv_iconst (v := 0) hx hb dX5_letFor_11 (by decide) ?_
  refine x_put (C := RX5) (T := TX5) (N := 6) (ty := .int) hx hb hts hiX5 tyX5 tyX5_ok nmX5 hown hK hH hc_a rfl 3 (by decide) hf17 (fun _ h => h) rfl (by decide +kernel) rfl rfl (Nat.le_of_ble_eq_true rfl) dX5_letFor_12 (fun H locs hH => ?_)
  have hH : xH G A s.heap H locs (va_up w7 a (some (.inr (6, [.int nr, .int 1, .int q, .int 0, .int pa, lb])))) := hH
  obtain ⟨w12, ew12⟩ : ∃ z, z = va_up w7 a (some (.inr (6, [.int nr, .int 1, .int q, .int 0, .int pa, lb]))) := ⟨_, rfl⟩
  rw [← ew12] at hH
  have hc_a : w12 a = some (.inr (6, [.int nr, .int 1, .int q, .int 0, .int pa, lb])) := by rw [ew12]; exact if_pos rfl
  have hfr : ∀ x, x ≠ a → w12 x = w x := fun x z_a => by rw [ew12]; exact (if_neg z_a).trans (hfr x z_a)
  refine lv_aload_n hx hb dX5_letFor_15 rfl (lv_at hl 0 rfl) ?_
  refine lv_iconst (v := 0) hx hb dX5_letFor_16 (by decide) ?_
  refine x_put (C := RX5) (T := TX5) (N := 6) (ty := .int) hx hb hts hiX5 tyX5 tyX5_ok nmX5 hown hK hH hc_a rfl 4 (by decide) hf20 (fun _ h => h) rfl (by decide +kernel) rfl rfl (Nat.le_of_ble_eq_true rfl) dX5_letFor_17 (fun H locs hH => ?_)
  have hH : xH G A s.heap H locs (va_up w12 a (some (.inr (6, [.int nr, .int 1, .int q, .int 0, .int 0, lb])))) := hH
  obtain ⟨w17, ew17⟩ : ∃ z, z = va_up w12 a (some (.inr (6, [.int nr, .int 1, .int q, .int 0, .int 0, lb]))) := ⟨_, rfl⟩
  rw [← ew17] at hH
  have hc_a : w17 a = some (.inr (6, [.int nr, .int 1, .int q, .int 0, .int 0, lb])) := by rw [ew17]; exact if_pos rfl
  have hfr : ∀ x, x ≠ a → w17 x = w x := fun x z_a => by rw [ew17]; exact (if_neg z_a).trans (hfr x z_a)
  exact x_vret w17 hx hb hr hlocks hK hH (⟨hc_a, hfr⟩) dX5_letFor_20

set_option maxHeartbeats 4000000 in
set_option maxRecDepth 100000 in
theorem c_X5_stillDue (l : Launch) (G : XG) (A : Nat → Prop) (w : XW) (a : Nat) (nr lt rn em pa : Int32) (lb : Value) (hc_a : w a = some (.inr (6, [.int nr, .int lt, .int rn, .int em, .int pa, lb])))  : Met l yX5_stillDue wsX5_stillDue ({ frames := 0, cells := 0, slots := 0, locals := 0 }) (va_Pc [.ref a] (xP G A (w))) (va_Qi (fun (r : Int32) (u : XW) => r = (if lt = 0 then 0 else em * rn / 100 - pa) ∧ u = w) (fun u t => xB G A (u) t) A) 0 0 A := by
  refine Met.ofW (cc := cX5_stillDue) (maxL := 1) (ret := (some .int)) (by decide) rfl ?_
  intro p e s m args below meth c s₁ B hml hv
  obtain ⟨rfl, hK, hH, hTt⟩ := hv
  have hx := B.exec
  have hb := B.bytes
  have hr := B.returns
  have hts := atoms_spec (ws := wsX5_stillDue) B.pre
  have hown : s.vm.findClass RX5 = some m.cls := findClass_of_methodNamed B.named
  have hlocks := B.notSynchronized
  have hiX5 : ∀ w ∈ wsX50, w ∈ wsX5_stillDue := by decide +kernel
  have hf7 := hts (.fieldLink RX5 7 "ResinWoods$Wood" "isLet" "Z") (by decide +kernel)
  have hf13 := hts (.fieldLink RX5 13 "ResinWoods$Wood" "rent" "I") (by decide +kernel)
  have hf17 := hts (.fieldLink RX5 17 "ResinWoods$Wood" "emptied" "I") (by decide +kernel)
  have hf20 := hts (.fieldLink RX5 20 "ResinWoods$Wood" "paid" "I") (by decide +kernel)
  have hl := lv_entry ([.ref a]) (n := 1) (Nat.le_of_ble_eq_true rfl)
  rw [lg_entry_eq]
  generalize (lg_sl ([.ref a]) ++ List.replicate (1 - (lg_sl ([.ref a])).length) Slot.unset).toArray = ls at hl ⊢
  have hl : lv_has ls 1 [(0, .ref a)] := hl
  refine lv_aload_n hx hb dX5_stillDue_0 rfl (lv_at hl 0 rfl) ?_
  refine x_get (C := RX5) (T := TX5) (N := 6) hx hb hts hiX5 hown hK hH hc_a rfl 1 (by decide) hf7 (fun _ h => h) (v := .int lt) rfl dX5_stillDue_1 ?_
  refine lv_if_eq (tgt := 27) hx hb dX5_stillDue_4 (by decide) (fun c4 => ?_) (fun c4 => ?_)
  · refine lv_iconst (v := 0) hx hb dX5_stillDue_27 (by decide) ?_
    exact x_iret (v := 0) w hx hb hr hlocks hK hH (⟨by simp [*], rfl⟩) dX5_stillDue_28
  · refine lv_aload_n hx hb dX5_stillDue_7 rfl (lv_at hl 0 rfl) ?_
    refine x_get (C := RX5) (T := TX5) (N := 6) hx hb hts hiX5 hown hK hH hc_a rfl 3 (by decide) hf17 (fun _ h => h) (v := .int em) rfl dX5_stillDue_8 ?_
    refine lv_aload_n hx hb dX5_stillDue_11 rfl (lv_at hl 0 rfl) ?_
    refine x_get (C := RX5) (T := TX5) (N := 6) hx hb hts hiX5 hown hK hH hc_a rfl 2 (by decide) hf13 (fun _ h => h) (v := .int rn) rfl dX5_stillDue_12 ?_
    refine lv_imul hx hb dX5_stillDue_15 ?_
    refine lv_bipush (v := 100) hx hb dX5_stillDue_16 (by decide) ?_
    refine lv_idiv hx hb dX5_stillDue_18 (by decide) ?_
    refine lv_aload_n hx hb dX5_stillDue_19 rfl (lv_at hl 0 rfl) ?_
    refine x_get (C := RX5) (T := TX5) (N := 6) hx hb hts hiX5 hown hK hH hc_a rfl 4 (by decide) hf20 (fun _ h => h) (v := .int pa) rfl dX5_stillDue_20 ?_
    refine lv_isub hx hb dX5_stillDue_23 ?_
    refine lv_goto (tgt := 28) hx hb dX5_stillDue_24 (by decide) ?_
    exact x_iret (v := ((em * rn) / 100) - pa) w hx hb hr hlocks hK hH (⟨by simp [*], rfl⟩) dX5_stillDue_28

def rstC (Y y : Int32) : Int32 := if 4 ≤ y then (if (Y >>> (y - 4 &&& 31)) &&& 15 = 15 then 1 else 0) else 0
set_option maxHeartbeats 4000000 in
set_option maxRecDepth 100000 in
theorem c_X4_restsIn (l : Launch) (G : XG) (A : Nat → Prop) (w : XW) (a : Nat) (wd fl : Nat) (nr wh bo bu yc : Int32) (hc_a : w a = some (.inr (5, [.int nr, .ref wd, .int wh, .int bo, .ref fl, .int bu, .int yc]))) (y : Int32) : Met l yX4_restsIn wsX4_restsIn ({ frames := 0, cells := 0, slots := 0, locals := 0 }) (va_Pc [.ref a, .int y] (xP G A (w))) (va_Qi (fun (r : Int32) (u : XW) => r = rstC yc y ∧ u = w) (fun u t => xB G A (u) t) A) 0 0 A := by
  refine Met.ofW (cc := cX4_restsIn) (maxL := 3) (ret := (some .boolean)) (by decide) rfl ?_
  intro p e s m args below meth c s₁ B hml hv
  obtain ⟨rfl, hK, hH, hTt⟩ := hv
  have hx := B.exec
  have hb := B.bytes
  have hr := B.returns
  have hts := atoms_spec (ws := wsX4_restsIn) B.pre
  have hown : s.vm.findClass RX4 = some m.cls := findClass_of_methodNamed B.named
  have hlocks := B.notSynchronized
  have hiX4 : ∀ w ∈ wsX40, w ∈ wsX4_restsIn := by decide +kernel
  have hf22 := hts (.fieldLink RX4 22 "ResinWoods$Tree" "yearsCut" "I") (by decide +kernel)
  have hl := lv_entry ([.ref a, .int y]) (n := 3) (Nat.le_of_ble_eq_true rfl)
  rw [lg_entry_eq]
  generalize (lg_sl ([.ref a, .int y]) ++ List.replicate (3 - (lg_sl ([.ref a, .int y])).length) Slot.unset).toArray = ls at hl ⊢
  have hl : lv_has ls 3 [(0, .ref a), (1, .int y)] := hl
  refine lv_bipush (v := 15) hx hb dX4_restsIn_0 (by decide) ?_
  refine lv_istore_n (lv' := [(2, .int 15), (0, .ref a), (1, .int y)]) hx hb dX4_restsIn_2 rfl hl (by decide) rfl (fun ls hl => ?_)
  refine lv_iload_n hx hb dX4_restsIn_3 rfl (lv_at hl 2 rfl) ?_
  refine lv_iconst (v := 4) hx hb dX4_restsIn_4 (by decide) ?_
  refine lv_icmp_lt (tgt := 26) hx hb dX4_restsIn_5 (by decide) (fun c5 => ?_) (fun c5 => ?_)
  · refine lv_iconst (v := 0) hx hb dX4_restsIn_26 (by decide) ?_
    exact x_zret (v := 0) w hx hb hr hlocks (by decide) hK hH (⟨by unfold rstC; first | (rw [if_neg (fun z => absurd c5 (fun z2 => by rw [Int32.lt_iff_toInt_lt] at z2; rw [Int32.le_iff_toInt_le] at z; omega))]; done) | (rw [if_pos (by rw [Int32.le_iff_toInt_le]; rw [Int32.lt_iff_toInt_lt] at c5; omega)]; first | (rw [if_pos c19]; done) | (rw [if_neg c19])), rfl⟩) dX4_restsIn_27
  · refine lv_aload_n hx hb dX4_restsIn_8 rfl (lv_at hl 1 rfl) ?_
    refine x_get (C := RX4) (T := TX4) (N := 7) hx hb hts hiX4 hown hK hH hc_a rfl 6 (by decide) hf22 (fun _ h => h) (v := .int yc) rfl dX4_restsIn_9 ?_
    refine lv_iload_n hx hb dX4_restsIn_12 rfl (lv_at hl 2 rfl) ?_
    refine lv_iconst (v := 4) hx hb dX4_restsIn_13 (by decide) ?_
    refine lv_isub hx hb dX4_restsIn_14 ?_
    refine lv_ishr hx hb dX4_restsIn_15 ?_
    refine lv_iload_n hx hb dX4_restsIn_16 rfl (lv_at hl 0 rfl) ?_
    refine lv_iand hx hb dX4_restsIn_17 ?_
    refine lv_iload_n hx hb dX4_restsIn_18 rfl (lv_at hl 0 rfl) ?_
    refine lv_icmp_ne (tgt := 26) hx hb dX4_restsIn_19 (by decide) (fun c19 => ?_) (fun c19 => ?_)
    · refine lv_iconst (v := 0) hx hb dX4_restsIn_26 (by decide) ?_
      exact x_zret (v := 0) w hx hb hr hlocks (by decide) hK hH (⟨by unfold rstC; first | (rw [if_neg (fun z => absurd c5 (fun z2 => by rw [Int32.lt_iff_toInt_lt] at z2; rw [Int32.le_iff_toInt_le] at z; omega))]; done) | (rw [if_pos (by rw [Int32.le_iff_toInt_le]; rw [Int32.lt_iff_toInt_lt] at c5; omega)]; first | (rw [if_pos c19]; done) | (rw [if_neg c19])), rfl⟩) dX4_restsIn_27
    · refine lv_iconst (v := 1) hx hb dX4_restsIn_22 (by decide) ?_
      refine lv_goto (tgt := 27) hx hb dX4_restsIn_23 (by decide) ?_
      exact x_zret (v := 1) w hx hb hr hlocks (by decide) hK hH (⟨by unfold rstC; first | (rw [if_neg (fun z => absurd c5 (fun z2 => by rw [Int32.lt_iff_toInt_lt] at z2; rw [Int32.le_iff_toInt_le] at z; omega))]; done) | (rw [if_pos (by rw [Int32.le_iff_toInt_le]; rw [Int32.lt_iff_toInt_lt] at c5; omega)]; first | (rw [if_pos c19]; done) | (rw [if_neg c19])), rfl⟩) dX4_restsIn_27
