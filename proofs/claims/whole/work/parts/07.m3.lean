
def sRuns (I : Nat → Int32) (F : Nat → Nat → Int32) (now f : Nat) : MS :=
  let n := F 1 now * strI (nI now - F 12 f)
  let c := if 400 - cupS F f ≤ n then 400 - cupS F f else n
  let j := 4 * f + ix (gradI F f (nI now))
  (va_up (va_up I 27 (I 27 + (n - c))) 26 (I 26 + n), setA (setA F 14 j (F 14 j + c)) 15 f (F 15 f + (n - c)))
def washF (F : Nat → Nat → Int32) (f g : Nat) (R : Int32) : Nat → Nat → Int32 := fun k j => if k = 14 ∧ 4 * f ≤ j ∧ j < 4 * f + g then F 14 j - F 14 j * R / 100 else F k j
theorem washF_0 (F : Nat → Nat → Int32) (f : Nat) (R : Int32) : washF F f 0 R = F := by
  funext k j
  unfold washF
  rw [if_neg (by omega)]
theorem washF_at (F : Nat → Nat → Int32) (f g : Nat) (R : Int32) : washF F f g R 14 (4 * f + g) = F 14 (4 * f + g) := by
  unfold washF
  rw [if_neg (by omega)]
theorem washF_ne (F : Nat → Nat → Int32) (f g : Nat) (R : Int32) {k : Nat} (h : k ≠ 14) : washF F f g R k = F k := by
  funext j
  unfold washF
  rw [if_neg (by omega)]
theorem washF_s (F : Nat → Nat → Int32) (f g : Nat) (R : Int32) : setA (washF F f g R) 14 (4 * f + g) (F 14 (4 * f + g) - F 14 (4 * f + g) * R / 100) = washF F f (g + 1) R := by
  funext k j
  rw [setA_e]
  unfold washF
  by_cases h : k = 14
  · subst h
    by_cases hj : j = 4 * f + g
    · subst hj
      rw [if_pos ⟨rfl, rfl⟩, if_pos (by omega)]
    · rw [if_neg (by omega)]
      simp [show (4 * f ≤ j ∧ j < 4 * f + (g + 1)) ↔ (4 * f ≤ j ∧ j < 4 * f + g) by omega]
  · simp [h]
def sWash (I : Nat → Int32) (F : Nat → Nat → Int32) (now f : Nat) : MS := (va_up I 28 (I 28 + l_sum (fun g => F 14 (4 * f + g) * F 2 now / 100) 4), washF F f 4 (F 2 now))
theorem up_0 (I : Nat → Int32) (k : Nat) {x : Int32} (h : x = I k) : va_up I k x = I := by
  funext j
  unfold va_up
  split
  · next e => rw [h, e]
  · rfl
theorem up_up (I : Nat → Int32) (k : Nat) (x y : Int32) : va_up (va_up I k x) k y = va_up I k y := bx_uu I k x y
theorem up_k (I : Nat → Int32) (k : Nat) (x : Int32) : va_up I k x k = x := if_pos rfl
theorem up_n (I : Nat → Int32) {k j : Nat} (x : Int32) (h : j ≠ k) : va_up I k x j = I j := if_neg h
def sFace (I : Nat → Int32) (F : Nat → Nat → Int32) (t i what : Int32) : Int32 := if binI t 0 (I 3 - 1) = 0 then -1 else if binI i 0 (F 9 (ix t) - 1) = 0 then -1 else if binI what 4 7 = 0 then (if what = 0 then F 11 (3 * ix t + ix i) else if what = 1 then F 12 (3 * ix t + ix i) else if what = 2 then F 13 (3 * ix t + ix i) else if what = 3 then cupS F (3 * ix t + ix i) else if what = 8 then F 15 (3 * ix t + ix i) else -1) else F 14 (4 * (3 * ix t + ix i) + ix what - 4)

set_option maxHeartbeats 4000000 in
set_option maxRecDepth 100000 in
theorem c_X7_rests (l : Launch) (G : XG) (A : Nat → Prop) (ρ : Nat → Option Nat) (ad : Nat → Nat) (b : XW) (I : Nat → Int32) (F : Nat → Nat → Int32) (hρ : mA ρ ad) (nT : Nat) (hn : I 3 = nI nT) (hT : nT ≤ 60) (now : Nat) (hw : I 0 = nI now) (hN : now ≤ 3650) (t : Int32) : Met l yX7_rests wsX7_rests ({ frames := 2, cells := 0, slots := 0, locals := 43 }) (va_Pc [.ref (ad 0), .int t] (xP G A (mw G ρ ad b I F))) (va_Qi (fun (r : Int32) (u : (Nat → Int32) × (Nat → Nat → Int32)) => r = sRests I F t ∧ u = (I, F)) (fun u t => xB G A (mw G ρ ad b u.1 u.2) t) A) 0 0 A := by
  refine Met.ofW (cc := cX7_rests) (maxL := 5) (ret := (some .boolean)) (by decide) rfl ?_
  intro p e s m args below meth c s₁ B hml hv
  obtain ⟨rfl, hK, hH, hTt⟩ := hv
  have hx := B.exec
  have hb := B.bytes
  have hr := B.returns
  have hts := atoms_spec (ws := wsX7_rests) B.pre
  have hown : s.vm.findClass RX7 = some m.cls := findClass_of_methodNamed B.named
  have hlocks := B.notSynchronized
  have hiX7 : ∀ w ∈ wsX70, w ∈ wsX7_rests := by decide +kernel
  have hf35 := hts (.fieldLink RX7 35 "ResinWoodsModel" "years" "[I") (by decide +kernel)
  have hf100 := hts (.fieldLink RX7 100 "ResinWoodsModel" "now" "I") (by decide +kernel)
  have hl := lv_entry ([.ref (ad 0), .int t]) (n := 5) (Nat.le_of_ble_eq_true rfl)
  rw [lg_entry_eq]
  generalize (lg_sl ([.ref (ad 0), .int t]) ++ List.replicate (5 - (lg_sl ([.ref (ad 0), .int t])).length) Slot.unset).toArray = ls at hl ⊢
  have hl : lv_has ls 5 [(0, .ref (ad 0)), (1, .int t)] := hl
  refine lv_aload_n hx hb dX7_rests_0 rfl (lv_at hl 0 rfl) ?_
  refine lv_iload_n hx hb dX7_rests_1 rfl (lv_at hl 1 rfl) ?_
  refine x_calli (va_runV (As := [.int t]) (rest := []) ⟨hx, hb, hml, hown, hts⟩ (c_X7_isTree l G A ρ ad b I F hρ t) (cwV 1 hts gX7_rests_X7_isTree rfl rfl rfl (by decide +kernel) ⟨Nat.le_of_ble_eq_true rfl, Nat.le_of_ble_eq_true rfl⟩) (x_preV hK hH hTt (mw_ob hρ) rfl [.int t]) rfl rfl hl.1 rfl (lv_room (Nat.le_of_ble_eq_true rfl)) dX7_rests_2 ⟨Nat.le_of_ble_eq_true rfl, Nat.le_of_ble_eq_true rfl⟩) hH (fun r2 u H locs hp hH => ?_)
  obtain ⟨rfl, rfl⟩ := hp
  have hH : xH G A s.heap H locs (mw G ρ ad b I F) := hH
  refine lv_if_ne (tgt := 10) hx hb dX7_rests_5 (by decide) (fun c5 => ?_) (fun c5 => ?_)
  · obtain ⟨t1, ht1, rfl⟩ := inI_pred (n := nT) (by rw [← hn]; exact binI_1.mp c5) (by omega)
    refine lv_aload_n hx hb dX7_rests_10 rfl (lv_at hl 0 rfl) ?_
    refine M_get hx hb hts hiX7 hown hK hρ hH 0 (by decide) hf100 (v := .int (nI now)) (congrArg (fun z => some (Value.int z)) hw) dX7_rests_11 ?_
    refine lv_sipush (v := 365) hx hb dX7_rests_14 (by decide) ?_
    refine N_idiv hx hb now 365 rfl rfl (by omega) (by decide) (by decide) dX7_rests_17 ?_
    refine lv_istore_n (lv' := [(2, .int (nI (now / 365))), (0, .ref (ad 0)), (1, .int (nI t1))]) hx hb dX7_rests_18 rfl hl (by decide) rfl (fun ls hl => ?_)
    refine lv_iload_n hx hb dX7_rests_19 rfl (lv_at hl 0 rfl) ?_
    refine lv_iconst (v := 4) hx hb dX7_rests_20 (by decide) ?_
    refine lv_icmp_lt (tgt := 28) hx hb dX7_rests_21 (by decide) (fun c21 => ?_) (fun c21 => ?_)
    · have c21 : (now / 365) < 4 := (nI_ltI (a := (now / 365)) (b := 4) (by omega) (by omega)).mp c21
      refine lv_iconst (v := 0) hx hb dX7_rests_28 (by decide) ?_
      refine lv_istore_n (lv' := [(3, .int 0), (2, .int (nI (now / 365))), (0, .ref (ad 0)), (1, .int (nI t1))]) hx hb dX7_rests_29 rfl hl (by decide) rfl (fun ls hl => ?_)
      refine lv_iconst (v := 1) hx hb dX7_rests_30 (by decide) ?_
      refine lv_istore (lv' := [(4, .int 1), (3, .int 0), (2, .int (nI (now / 365))), (0, .ref (ad 0)), (1, .int (nI t1))]) hx hb dX7_rests_31 hl (by decide) rfl (fun ls hl => ?_)
      suffices loop33 : ∀ (k33 : Nat) (k : Nat) (is : Int32), (5 < k + k33) → (1 ≤ k) → (k ≤ 5) → (is = rst (F 10 t1) (now / 365) (k - 1)) → ∀ (H : Heap) (locs : List Loc), xH G A s.heap H locs (mw G ρ ad b I F) → ∀ (ls : Array Slot), lv_has ls 5 [(0, .ref (ad 0)), (1, .int (nI t1)), (2, .int (nI (now / 365))), (3, .int is), (4, .int (nI k))] → W p l e (headSpec wsX7_rests _).room s m _ below meth c H locs 0 0 (MQ below _ _ s 0 0 A) (F0 m 33 ls []) from
        loop33 6 1 0 (by omega) (by omega) (by omega) (by show _ = rst _ _ 0; simp only [rst]; first | rw [if_neg (by omega)] | rw [if_pos (by omega)]) _ _ hH ls (lv_sub hl [3, 4, 2, 1, 0] rfl)
      intro k33
      induction k33 with
      | zero =>
        intro k is hfuel hk1 hk2 his H locs hH ls hl
        exact absurd hfuel (by omega)
      | succ k33 ih33 =>
        intro k is hfuel hk1 hk2 his H locs hH ls hl
        refine lv_iload hx hb dX7_rests_33 (lv_at hl 4 rfl) ?_
        refine lv_iconst (v := 4) hx hb dX7_rests_35 (by decide) ?_
        refine lv_icmp_gt (tgt := 72) hx hb dX7_rests_36 (by decide) (fun c36 => ?_) (fun c36 => ?_)
        · have c36 : 4 < k := (nI_ltI (a := 4) (b := k) (by omega) (by omega)).mp c36
          refine lv_iload_n hx hb dX7_rests_72 rfl (lv_at hl 3 rfl) ?_
          exact x_zret (v := is) (I, F) hx hb hr hlocks (by rw [his]; exact rst_n _) hK hH (⟨by simp only [sRests]; rw [if_neg c5, ix_n (by omega), hw, ix_n (by omega)]; first | (rw [his, show k - 1 = 4 by omega]; done) | (rw [c40, show (4 : Nat) = (k - 1) + (5 - k) by omega]; exact (rst_0 (by rw [← his]; exact c40)).symm), rfl⟩) dX7_rests_73
        · have c36 : ¬ 4 < k := fun zz => c36 ((nI_ltI (a := 4) (b := k) (by omega) (by omega)).mpr zz)
          refine lv_iload_n hx hb dX7_rests_39 rfl (lv_at hl 3 rfl) ?_
          refine lv_if_eq (tgt := 72) hx hb dX7_rests_40 (by decide) (fun c40 => ?_) (fun c40 => ?_)
          · refine lv_iload_n hx hb dX7_rests_72 rfl (lv_at hl 3 rfl) ?_
            exact x_zret (v := is) (I, F) hx hb hr hlocks (by rw [his]; exact rst_n _) hK hH (⟨by simp only [sRests]; rw [if_neg c5, ix_n (by omega), hw, ix_n (by omega)]; first | (rw [his, show k - 1 = 4 by omega]; done) | (rw [c40, show (4 : Nat) = (k - 1) + (5 - k) by omega]; exact (rst_0 (by rw [← his]; exact c40)).symm), rfl⟩) dX7_rests_73
          · have hy : 4 ≤ now / 365 := rst_y (by rw [← his]; exact c40)
            refine lv_aload_n hx hb dX7_rests_43 rfl (lv_at hl 0 rfl) ?_
            refine M_get hx hb hts hiX7 hown hK hρ hH 10 (by decide) hf35 (v := .ref (ad 10)) rfl dX7_rests_44 ?_
            refine lv_iload_n hx hb dX7_rests_47 rfl (lv_at hl 1 rfl) ?_
            refine M_iald hx hb hK hρ hH 10 60 (by decide) t1 rfl (by omega) dX7_rests_48 ?_
            refine lv_iload_n hx hb dX7_rests_49 rfl (lv_at hl 2 rfl) ?_
            refine lv_iload hx hb dX7_rests_50 (lv_at hl 4 rfl) ?_
            refine N_isub hx hb (now / 365) k rfl rfl (by omega) dX7_rests_52 ?_
            refine lv_ishr hx hb dX7_rests_53 ?_
            refine lv_iconst (v := 1) hx hb dX7_rests_54 (by decide) ?_
            refine lv_iand hx hb dX7_rests_55 ?_
            refine lv_iconst (v := 1) hx hb dX7_rests_56 (by decide) ?_
            refine lv_icmp_ne (tgt := 64) hx hb dX7_rests_57 (by decide) (fun c57 => ?_) (fun c57 => ?_)
            · refine lv_iconst (v := 0) hx hb dX7_rests_64 (by decide) ?_
              refine lv_istore_n (lv' := [(3, .int 0), (0, .ref (ad 0)), (1, .int (nI t1)), (2, .int (nI (now / 365))), (4, .int (nI k))]) hx hb dX7_rests_65 rfl hl (by decide) rfl (fun ls hl => ?_)
              refine lv_iinc (v := nI (k + 1)) (lv' := [(4, .int (nI (k + 1))), (3, .int 0), (0, .ref (ad 0)), (1, .int (nI t1)), (2, .int (nI (now / 365)))]) hx hb dX7_rests_66 hl (k := 4) rfl (by exact nI_add _ 1) (by decide) rfl (fun ls hl => ?_)
              refine lv_goto (tgt := 33) hx hb dX7_rests_69 (by decide) ?_
              exact ih33 (k + 1) 0 (by omega) (by omega) (by omega) (by rw [show k + 1 - 1 = (k - 1) + 1 by omega]; simp only [rst]; rw [if_neg (by rw [← his]; exact c40), show k - 1 + 1 = k by omega]; first | rw [if_pos c57] | rw [if_neg c57]) _ _ hH ls (lv_sub hl [2, 3, 4, 1, 0] rfl)
            · refine lv_iconst (v := 1) hx hb dX7_rests_60 (by decide) ?_
              refine lv_goto (tgt := 65) hx hb dX7_rests_61 (by decide) ?_
              refine lv_istore_n (lv' := [(3, .int 1), (0, .ref (ad 0)), (1, .int (nI t1)), (2, .int (nI (now / 365))), (4, .int (nI k))]) hx hb dX7_rests_65 rfl hl (by decide) rfl (fun ls hl => ?_)
              refine lv_iinc (v := nI (k + 1)) (lv' := [(4, .int (nI (k + 1))), (3, .int 1), (0, .ref (ad 0)), (1, .int (nI t1)), (2, .int (nI (now / 365)))]) hx hb dX7_rests_66 hl (k := 4) rfl (by exact nI_add _ 1) (by decide) rfl (fun ls hl => ?_)
              refine lv_goto (tgt := 33) hx hb dX7_rests_69 (by decide) ?_
              exact ih33 (k + 1) 1 (by omega) (by omega) (by omega) (by rw [show k + 1 - 1 = (k - 1) + 1 by omega]; simp only [rst]; rw [if_neg (by rw [← his]; exact c40), show k - 1 + 1 = k by omega]; first | rw [if_pos c57] | rw [if_neg c57]) _ _ hH ls (lv_sub hl [2, 3, 4, 1, 0] rfl)
    · have c21 : ¬ (now / 365) < 4 := fun zz => c21 ((nI_ltI (a := (now / 365)) (b := 4) (by omega) (by omega)).mpr zz)
      refine lv_iconst (v := 1) hx hb dX7_rests_24 (by decide) ?_
      refine lv_goto (tgt := 29) hx hb dX7_rests_25 (by decide) ?_
      refine lv_istore_n (lv' := [(3, .int 1), (2, .int (nI (now / 365))), (0, .ref (ad 0)), (1, .int (nI t1))]) hx hb dX7_rests_29 rfl hl (by decide) rfl (fun ls hl => ?_)
      refine lv_iconst (v := 1) hx hb dX7_rests_30 (by decide) ?_
      refine lv_istore (lv' := [(4, .int 1), (3, .int 1), (2, .int (nI (now / 365))), (0, .ref (ad 0)), (1, .int (nI t1))]) hx hb dX7_rests_31 hl (by decide) rfl (fun ls hl => ?_)
      suffices loop33 : ∀ (k33 : Nat) (k : Nat) (is : Int32), (5 < k + k33) → (1 ≤ k) → (k ≤ 5) → (is = rst (F 10 t1) (now / 365) (k - 1)) → ∀ (H : Heap) (locs : List Loc), xH G A s.heap H locs (mw G ρ ad b I F) → ∀ (ls : Array Slot), lv_has ls 5 [(0, .ref (ad 0)), (1, .int (nI t1)), (2, .int (nI (now / 365))), (3, .int is), (4, .int (nI k))] → W p l e (headSpec wsX7_rests _).room s m _ below meth c H locs 0 0 (MQ below _ _ s 0 0 A) (F0 m 33 ls []) from
        loop33 6 1 1 (by omega) (by omega) (by omega) (by show _ = rst _ _ 0; simp only [rst]; first | rw [if_neg (by omega)] | rw [if_pos (by omega)]) _ _ hH ls (lv_sub hl [3, 4, 2, 1, 0] rfl)
      intro k33
      induction k33 with
      | zero =>
        intro k is hfuel hk1 hk2 his H locs hH ls hl
        exact absurd hfuel (by omega)
      | succ k33 ih33 =>
        intro k is hfuel hk1 hk2 his H locs hH ls hl
        refine lv_iload hx hb dX7_rests_33 (lv_at hl 4 rfl) ?_
        refine lv_iconst (v := 4) hx hb dX7_rests_35 (by decide) ?_
        refine lv_icmp_gt (tgt := 72) hx hb dX7_rests_36 (by decide) (fun c36 => ?_) (fun c36 => ?_)
        · have c36 : 4 < k := (nI_ltI (a := 4) (b := k) (by omega) (by omega)).mp c36
          refine lv_iload_n hx hb dX7_rests_72 rfl (lv_at hl 3 rfl) ?_
          exact x_zret (v := is) (I, F) hx hb hr hlocks (by rw [his]; exact rst_n _) hK hH (⟨by simp only [sRests]; rw [if_neg c5, ix_n (by omega), hw, ix_n (by omega)]; first | (rw [his, show k - 1 = 4 by omega]; done) | (rw [c40, show (4 : Nat) = (k - 1) + (5 - k) by omega]; exact (rst_0 (by rw [← his]; exact c40)).symm), rfl⟩) dX7_rests_73
        · have c36 : ¬ 4 < k := fun zz => c36 ((nI_ltI (a := 4) (b := k) (by omega) (by omega)).mpr zz)
          refine lv_iload_n hx hb dX7_rests_39 rfl (lv_at hl 3 rfl) ?_
          refine lv_if_eq (tgt := 72) hx hb dX7_rests_40 (by decide) (fun c40 => ?_) (fun c40 => ?_)
          · refine lv_iload_n hx hb dX7_rests_72 rfl (lv_at hl 3 rfl) ?_
            exact x_zret (v := is) (I, F) hx hb hr hlocks (by rw [his]; exact rst_n _) hK hH (⟨by simp only [sRests]; rw [if_neg c5, ix_n (by omega), hw, ix_n (by omega)]; first | (rw [his, show k - 1 = 4 by omega]; done) | (rw [c40, show (4 : Nat) = (k - 1) + (5 - k) by omega]; exact (rst_0 (by rw [← his]; exact c40)).symm), rfl⟩) dX7_rests_73
          · have hy : 4 ≤ now / 365 := rst_y (by rw [← his]; exact c40)
            refine lv_aload_n hx hb dX7_rests_43 rfl (lv_at hl 0 rfl) ?_
            refine M_get hx hb hts hiX7 hown hK hρ hH 10 (by decide) hf35 (v := .ref (ad 10)) rfl dX7_rests_44 ?_
            refine lv_iload_n hx hb dX7_rests_47 rfl (lv_at hl 1 rfl) ?_
            refine M_iald hx hb hK hρ hH 10 60 (by decide) t1 rfl (by omega) dX7_rests_48 ?_
            refine lv_iload_n hx hb dX7_rests_49 rfl (lv_at hl 2 rfl) ?_
            refine lv_iload hx hb dX7_rests_50 (lv_at hl 4 rfl) ?_
            refine N_isub hx hb (now / 365) k rfl rfl (by omega) dX7_rests_52 ?_
            refine lv_ishr hx hb dX7_rests_53 ?_
            refine lv_iconst (v := 1) hx hb dX7_rests_54 (by decide) ?_
            refine lv_iand hx hb dX7_rests_55 ?_
            refine lv_iconst (v := 1) hx hb dX7_rests_56 (by decide) ?_
            refine lv_icmp_ne (tgt := 64) hx hb dX7_rests_57 (by decide) (fun c57 => ?_) (fun c57 => ?_)
            · refine lv_iconst (v := 0) hx hb dX7_rests_64 (by decide) ?_
              refine lv_istore_n (lv' := [(3, .int 0), (0, .ref (ad 0)), (1, .int (nI t1)), (2, .int (nI (now / 365))), (4, .int (nI k))]) hx hb dX7_rests_65 rfl hl (by decide) rfl (fun ls hl => ?_)
              refine lv_iinc (v := nI (k + 1)) (lv' := [(4, .int (nI (k + 1))), (3, .int 0), (0, .ref (ad 0)), (1, .int (nI t1)), (2, .int (nI (now / 365)))]) hx hb dX7_rests_66 hl (k := 4) rfl (by exact nI_add _ 1) (by decide) rfl (fun ls hl => ?_)
              refine lv_goto (tgt := 33) hx hb dX7_rests_69 (by decide) ?_
              exact ih33 (k + 1) 0 (by omega) (by omega) (by omega) (by rw [show k + 1 - 1 = (k - 1) + 1 by omega]; simp only [rst]; rw [if_neg (by rw [← his]; exact c40), show k - 1 + 1 = k by omega]; first | rw [if_pos c57] | rw [if_neg c57]) _ _ hH ls (lv_sub hl [2, 3, 4, 1, 0] rfl)
            · refine lv_iconst (v := 1) hx hb dX7_rests_60 (by decide) ?_
              refine lv_goto (tgt := 65) hx hb dX7_rests_61 (by decide) ?_
              refine lv_istore_n (lv' := [(3, .int 1), (0, .ref (ad 0)), (1, .int (nI t1)), (2, .int (nI (now / 365))), (4, .int (nI k))]) hx hb dX7_rests_65 rfl hl (by decide) rfl (fun ls hl => ?_)
              refine lv_iinc (v := nI (k + 1)) (lv' := [(4, .int (nI (k + 1))), (3, .int 1), (0, .ref (ad 0)), (1, .int (nI t1)), (2, .int (nI (now / 365)))]) hx hb dX7_rests_66 hl (k := 4) rfl (by exact nI_add _ 1) (by decide) rfl (fun ls hl => ?_)
              refine lv_goto (tgt := 33) hx hb dX7_rests_69 (by decide) ?_
              exact ih33 (k + 1) 1 (by omega) (by omega) (by omega) (by rw [show k + 1 - 1 = (k - 1) + 1 by omega]; simp only [rst]; rw [if_neg (by rw [← his]; exact c40), show k - 1 + 1 = k by omega]; first | rw [if_pos c57] | rw [if_neg c57]) _ _ hH ls (lv_sub hl [2, 3, 4, 1, 0] rfl)
  · refine lv_iconst (v := 0) hx hb dX7_rests_8 (by decide) ?_
    exact x_zret (v := 0) (I, F) hx hb hr hlocks (by decide) hK hH (⟨by simp only [sRests]; rw [if_pos c5], rfl⟩) dX7_rests_9

set_option maxHeartbeats 4000000 in
set_option maxRecDepth 100000 in
theorem c_X7_runs (l : Launch) (G : XG) (A : Nat → Prop) (ρ : Nat → Option Nat) (ad : Nat → Nat) (b : XW) (I : Nat → Int32) (F : Nat → Nat → Int32) (hρ : mA ρ ad) (now : Nat) (hw : I 0 = nI now) (hN : now < 3650) (f gr : Nat) (hf : f < 180) (hgr : gradI F f (nI now) = nI gr) (hg : gr < 4) : Met l yX7_runs wsX7_runs ({ frames := 1, cells := 0, slots := 0, locals := 23 }) (va_Pc [.ref (ad 0), .int (nI f)] (xP G A (mw G ρ ad b I F))) (va_Qv (fun (u : (Nat → Int32) × (Nat → Nat → Int32)) => u = sRuns I F now f) (fun u t => xB G A (mw G ρ ad b u.1 u.2) t) A) 0 0 A := by
  refine Met.ofW (cc := cX7_runs) (maxL := 5) (ret := none) (by decide) rfl ?_
  intro p e s m args below meth c s₁ B hml hv
  obtain ⟨rfl, hK, hH, hTt⟩ := hv
  have hx := B.exec
  have hb := B.bytes
  have hr := B.returns
  have hts := atoms_spec (ws := wsX7_runs) B.pre
  have hown : s.vm.findClass RX7 = some m.cls := findClass_of_methodNamed B.named
  have hlocks := B.notSynchronized
  have hiX7 : ∀ w ∈ wsX70, w ∈ wsX7_runs := by decide +kernel
  have hf9 := hts (.fieldLink RX7 9 "ResinWoodsModel" "warmth" "[I") (by decide +kernel)
  have hf41 := hts (.fieldLink RX7 41 "ResinWoodsModel" "latest" "[I") (by decide +kernel)
  have hf47 := hts (.fieldLink RX7 47 "ResinWoodsModel" "cups" "[I") (by decide +kernel)
  have hf50 := hts (.fieldLink RX7 50 "ResinWoodsModel" "overOf" "[I") (by decide +kernel)
  have hf100 := hts (.fieldLink RX7 100 "ResinWoodsModel" "now" "I") (by decide +kernel)
  have hf131 := hts (.fieldLink RX7 131 "ResinWoodsModel" "over" "I") (by decide +kernel)
  have hf134 := hts (.fieldLink RX7 134 "ResinWoodsModel" "ran" "I") (by decide +kernel)
  have hl := lv_entry ([.ref (ad 0), .int (nI f)]) (n := 5) (Nat.le_of_ble_eq_true rfl)
  rw [lg_entry_eq]
  generalize (lg_sl ([.ref (ad 0), .int (nI f)]) ++ List.replicate (5 - (lg_sl ([.ref (ad 0), .int (nI f)])).length) Slot.unset).toArray = ls at hl ⊢
  have hl : lv_has ls 5 [(0, .ref (ad 0)), (1, .int (nI f))] := hl
  refine lv_aload_n hx hb dX7_runs_0 rfl (lv_at hl 0 rfl) ?_
  refine M_get hx hb hts hiX7 hown hK hρ hH 1 (by decide) hf9 (v := .ref (ad 1)) rfl dX7_runs_1 ?_
  refine lv_aload_n hx hb dX7_runs_4 rfl (lv_at hl 0 rfl) ?_
  refine M_get hx hb hts hiX7 hown hK hρ hH 0 (by decide) hf100 (v := .int (nI now)) (congrArg (fun z => some (Value.int z)) hw) dX7_runs_5 ?_
  refine M_iald hx hb hK hρ hH 1 3650 (by decide) now rfl (by omega) dX7_runs_8 ?_
  refine lv_aload_n hx hb dX7_runs_9 rfl (lv_at hl 0 rfl) ?_
  refine M_get hx hb hts hiX7 hown hK hρ hH 0 (by decide) hf100 (v := .int (nI now)) (congrArg (fun z => some (Value.int z)) hw) dX7_runs_10 ?_
  refine lv_aload_n hx hb dX7_runs_13 rfl (lv_at hl 0 rfl) ?_
  refine M_get hx hb hts hiX7 hown hK hρ hH 12 (by decide) hf41 (v := .ref (ad 12)) rfl dX7_runs_14 ?_
  refine lv_iload_n hx hb dX7_runs_17 rfl (lv_at hl 1 rfl) ?_
  refine M_iald hx hb hK hρ hH 12 180 (by decide) f rfl (by omega) dX7_runs_18 ?_
  refine lv_isub hx hb dX7_runs_19 ?_
  refine x_calli (va_runS (As := [.int ((nI now) - (F 12 f))]) (rest := [.int (F 1 now)]) ⟨hx, hb, hml, hown, hts⟩ (c_X7_strength l G A (mw G ρ ad b I F) ((nI now) - (F 12 f))) (va_cwS 1 hts gX7_runs_X7_strength rfl rfl rfl (by decide +kernel) ⟨Nat.le_of_ble_eq_true rfl, Nat.le_of_ble_eq_true rfl⟩) (x_preS hK hH hTt [.int ((nI now) - (F 12 f))]) rfl rfl hl.1 rfl (lv_room (Nat.le_of_ble_eq_true rfl)) dX7_runs_20 ⟨Nat.le_of_ble_eq_true rfl, Nat.le_of_ble_eq_true rfl⟩) hH (fun r20 u H locs hp hH => ?_)
  subst hp
  have hH : xH G A s.heap H locs (mw G ρ ad b I F) := hH
  refine lv_imul hx hb dX7_runs_23 ?_
  refine lv_topi (fun v24 ev24 => ?_)
  refine lv_istore_n (lv' := [(2, .int v24), (0, .ref (ad 0)), (1, .int (nI f))]) hx hb dX7_runs_24 rfl hl (by decide) rfl (fun ls hl => ?_)
  refine lv_sipush (v := 400) hx hb dX7_runs_25 (by decide) ?_
  refine lv_aload_n hx hb dX7_runs_28 rfl (lv_at hl 1 rfl) ?_
  refine lv_iload_n hx hb dX7_runs_29 rfl (lv_at hl 2 rfl) ?_
  refine x_calli (va_runV (As := [.int (nI f)]) (rest := [.int 400]) ⟨hx, hb, hml, hown, hts⟩ (c_X7_inCup l G A ρ ad b I F hρ f (by omega)) (cwV 1 hts gX7_runs_X7_inCup rfl rfl rfl (by decide +kernel) ⟨Nat.le_of_ble_eq_true rfl, Nat.le_of_ble_eq_true rfl⟩) (x_preV hK hH hTt (mw_ob hρ) rfl [.int (nI f)]) rfl rfl hl.1 rfl (lv_room (Nat.le_of_ble_eq_true rfl)) dX7_runs_30 ⟨Nat.le_of_ble_eq_true rfl, Nat.le_of_ble_eq_true rfl⟩) hH (fun r30 u H locs hp hH => ?_)
  obtain ⟨rfl, rfl⟩ := hp
  have hH : xH G A s.heap H locs (mw G ρ ad b I F) := hH
  refine lv_isub hx hb dX7_runs_33 ?_
  refine lv_istore_n (lv' := [(3, .int (400 - (cupS F f))), (2, .int v24), (0, .ref (ad 0)), (1, .int (nI f))]) hx hb dX7_runs_34 rfl hl (by decide) rfl (fun ls hl => ?_)
  refine lv_iload_n hx hb dX7_runs_35 rfl (lv_at hl 1 rfl) ?_
  refine lv_iload_n hx hb dX7_runs_36 rfl (lv_at hl 0 rfl) ?_
  refine lv_icmp_ge (tgt := 44) hx hb dX7_runs_37 (by decide) (fun c37 => ?_) (fun c37 => ?_)
  · refine lv_iload_n hx hb dX7_runs_44 rfl (lv_at hl 0 rfl) ?_
    refine lv_istore (lv' := [(4, .int (400 - (cupS F f))), (3, .int (400 - (cupS F f))), (2, .int v24), (0, .ref (ad 0)), (1, .int (nI f))]) hx hb dX7_runs_45 hl (by decide) rfl (fun ls hl => ?_)
    refine lv_aload_n hx hb dX7_runs_47 rfl (lv_at hl 3 rfl) ?_
    refine M_get hx hb hts hiX7 hown hK hρ hH 14 (by decide) hf47 (v := .ref (ad 14)) rfl dX7_runs_48 ?_
    refine lv_iconst (v := 4) hx hb dX7_runs_51 (by decide) ?_
    refine lv_iload_n hx hb dX7_runs_52 rfl (lv_at hl 4 rfl) ?_
    refine N_imul hx hb 4 f rfl rfl dX7_runs_53 ?_
    refine lv_aload_n hx hb dX7_runs_54 rfl (lv_at hl 3 rfl) ?_
    refine lv_iload_n hx hb dX7_runs_55 rfl (lv_at hl 4 rfl) ?_
    refine lv_aload_n hx hb dX7_runs_56 rfl (lv_at hl 3 rfl) ?_
    refine M_get hx hb hts hiX7 hown hK hρ hH 0 (by decide) hf100 (v := .int (nI now)) (congrArg (fun z => some (Value.int z)) hw) dX7_runs_57 ?_
    refine x_calli (va_runV (As := [.int (nI f), .int (nI now)]) (rest := [.int (nI (4 * f)), .ref (ad 14)]) ⟨hx, hb, hml, hown, hts⟩ (c_X7_gradeOf l G A ρ ad b I F hρ f (nI now) (by omega)) (cwV 2 hts gX7_runs_X7_gradeOf rfl rfl rfl (by decide +kernel) ⟨Nat.le_of_ble_eq_true rfl, Nat.le_of_ble_eq_true rfl⟩) (x_preV hK hH hTt (mw_ob hρ) rfl [.int (nI f), .int (nI now)]) rfl rfl hl.1 rfl (lv_room (Nat.le_of_ble_eq_true rfl)) dX7_runs_60 ⟨Nat.le_of_ble_eq_true rfl, Nat.le_of_ble_eq_true rfl⟩) hH (fun r60 u H locs hp hH => ?_)
    obtain ⟨rfl, rfl⟩ := hp
    have hH : xH G A s.heap H locs (mw G ρ ad b I F) := hH
    refine lv_topi (fun w60 ew60 => ?_)
    rw [hgr] at ew60
    subst ew60
    refine N_iadd hx hb (4 * f) gr rfl rfl dX7_runs_63 ?_
    refine lv_dup2_11 hx hb dX7_runs_64 rfl rfl ?_
    refine M_iald hx hb hK hρ hH 14 720 (by decide) ((4 * f) + gr) rfl (by omega) dX7_runs_65 ?_
    refine lv_iload hx hb dX7_runs_66 (lv_at hl 0 rfl) ?_
    refine lv_iadd hx hb dX7_runs_68 ?_
    refine M_iast hx hb hK hρ hH 14 720 (by decide) ((4 * f) + gr) rfl (by omega) dX7_runs_69 (fun H locs hH => ?_)
    obtain ⟨F69, eF69⟩ : ∃ z, z = setA F 14 ((4 * f) + gr) ((F 14 ((4 * f) + gr)) + (400 - (cupS F f))) := ⟨_, rfl⟩
    rw [← eF69] at hH
    refine lv_aload_n hx hb dX7_runs_70 rfl (lv_at hl 3 rfl) ?_
    refine M_get hx hb hts hiX7 hown hK hρ hH 15 (by decide) hf50 (v := .ref (ad 15)) rfl dX7_runs_71 ?_
    refine lv_iload_n hx hb dX7_runs_74 rfl (lv_at hl 4 rfl) ?_
    refine lv_dup2_11 hx hb dX7_runs_75 rfl rfl ?_
    refine M_iald hx hb hK hρ hH 15 180 (by decide) f rfl (by omega) dX7_runs_76 ?_
    refine lv_iload_n hx hb dX7_runs_77 rfl (lv_at hl 2 rfl) ?_
    refine lv_iload hx hb dX7_runs_78 (lv_at hl 0 rfl) ?_
    refine lv_isub hx hb dX7_runs_80 ?_
    refine lv_iadd hx hb dX7_runs_81 ?_
    refine M_iast hx hb hK hρ hH 15 180 (by decide) f rfl (by omega) dX7_runs_82 (fun H locs hH => ?_)
    obtain ⟨F82, eF82⟩ : ∃ z, z = setA F69 15 f ((F69 15 f) + (v24 - (400 - (cupS F f)))) := ⟨_, rfl⟩
    rw [← eF82] at hH
    refine lv_aload_n hx hb dX7_runs_83 rfl (lv_at hl 3 rfl) ?_
    refine lv_dup hx hb dX7_runs_84 rfl ?_
    refine M_get hx hb hts hiX7 hown hK hρ hH 27 (by decide) hf131 (v := .int (I 27)) rfl dX7_runs_85 ?_
    refine lv_iload_n hx hb dX7_runs_88 rfl (lv_at hl 2 rfl) ?_
    refine lv_iload hx hb dX7_runs_89 (lv_at hl 0 rfl) ?_
    refine lv_isub hx hb dX7_runs_91 ?_
    refine lv_iadd hx hb dX7_runs_92 ?_
    refine M_put hx hb hts hiX7 hown hK hρ hH 27 (by decide) hf131 rfl (by decide +kernel) rfl dX7_runs_93 (fun H locs hH => ?_)
    obtain ⟨I93, eI93⟩ : ∃ z, z = va_up I 27 ((I 27) + (v24 - (400 - (cupS F f)))) := ⟨_, rfl⟩
    rw [← eI93] at hH
    refine lv_aload_n hx hb dX7_runs_96 rfl (lv_at hl 3 rfl) ?_
    refine lv_dup hx hb dX7_runs_97 rfl ?_
    refine M_get hx hb hts hiX7 hown hK hρ hH 26 (by decide) hf134 (v := .int (I93 26)) rfl dX7_runs_98 ?_
    refine lv_iload_n hx hb dX7_runs_101 rfl (lv_at hl 2 rfl) ?_
    refine lv_iadd hx hb dX7_runs_102 ?_
    refine M_put hx hb hts hiX7 hown hK hρ hH 26 (by decide) hf134 rfl (by decide +kernel) rfl dX7_runs_103 (fun H locs hH => ?_)
    obtain ⟨I103, eI103⟩ : ∃ z, z = va_up I93 26 ((I93 26) + v24) := ⟨_, rfl⟩
    rw [← eI103] at hH
    exact x_vret (I103, F82) hx hb hr hlocks hK hH (by subst ev24 eF69 eF82 eI93 eI103; simp only [sRuns]; rw [hgr, ix_n (by omega)]; (first | rw [if_pos c37] | rw [if_neg c37]); simp [up_n, setA_n]) dX7_runs_106
  · refine lv_iload_n hx hb dX7_runs_40 rfl (lv_at hl 1 rfl) ?_
    refine lv_goto (tgt := 45) hx hb dX7_runs_41 (by decide) ?_
    refine lv_istore (lv' := [(4, .int v24), (3, .int (400 - (cupS F f))), (2, .int v24), (0, .ref (ad 0)), (1, .int (nI f))]) hx hb dX7_runs_45 hl (by decide) rfl (fun ls hl => ?_)
    refine lv_aload_n hx hb dX7_runs_47 rfl (lv_at hl 3 rfl) ?_
    refine M_get hx hb hts hiX7 hown hK hρ hH 14 (by decide) hf47 (v := .ref (ad 14)) rfl dX7_runs_48 ?_
    refine lv_iconst (v := 4) hx hb dX7_runs_51 (by decide) ?_
    refine lv_iload_n hx hb dX7_runs_52 rfl (lv_at hl 4 rfl) ?_
    refine N_imul hx hb 4 f rfl rfl dX7_runs_53 ?_
    refine lv_aload_n hx hb dX7_runs_54 rfl (lv_at hl 3 rfl) ?_
    refine lv_iload_n hx hb dX7_runs_55 rfl (lv_at hl 4 rfl) ?_
    refine lv_aload_n hx hb dX7_runs_56 rfl (lv_at hl 3 rfl) ?_
    refine M_get hx hb hts hiX7 hown hK hρ hH 0 (by decide) hf100 (v := .int (nI now)) (congrArg (fun z => some (Value.int z)) hw) dX7_runs_57 ?_
    refine x_calli (va_runV (As := [.int (nI f), .int (nI now)]) (rest := [.int (nI (4 * f)), .ref (ad 14)]) ⟨hx, hb, hml, hown, hts⟩ (c_X7_gradeOf l G A ρ ad b I F hρ f (nI now) (by omega)) (cwV 2 hts gX7_runs_X7_gradeOf rfl rfl rfl (by decide +kernel) ⟨Nat.le_of_ble_eq_true rfl, Nat.le_of_ble_eq_true rfl⟩) (x_preV hK hH hTt (mw_ob hρ) rfl [.int (nI f), .int (nI now)]) rfl rfl hl.1 rfl (lv_room (Nat.le_of_ble_eq_true rfl)) dX7_runs_60 ⟨Nat.le_of_ble_eq_true rfl, Nat.le_of_ble_eq_true rfl⟩) hH (fun r60 u H locs hp hH => ?_)
    obtain ⟨rfl, rfl⟩ := hp
    have hH : xH G A s.heap H locs (mw G ρ ad b I F) := hH
    refine lv_topi (fun w60 ew60 => ?_)
    rw [hgr] at ew60
    subst ew60
    refine N_iadd hx hb (4 * f) gr rfl rfl dX7_runs_63 ?_
    refine lv_dup2_11 hx hb dX7_runs_64 rfl rfl ?_
    refine M_iald hx hb hK hρ hH 14 720 (by decide) ((4 * f) + gr) rfl (by omega) dX7_runs_65 ?_
    refine lv_iload hx hb dX7_runs_66 (lv_at hl 0 rfl) ?_
    refine lv_iadd hx hb dX7_runs_68 ?_
    refine M_iast hx hb hK hρ hH 14 720 (by decide) ((4 * f) + gr) rfl (by omega) dX7_runs_69 (fun H locs hH => ?_)
    obtain ⟨F69, eF69⟩ : ∃ z, z = setA F 14 ((4 * f) + gr) ((F 14 ((4 * f) + gr)) + v24) := ⟨_, rfl⟩
    rw [← eF69] at hH
    refine lv_aload_n hx hb dX7_runs_70 rfl (lv_at hl 3 rfl) ?_
    refine M_get hx hb hts hiX7 hown hK hρ hH 15 (by decide) hf50 (v := .ref (ad 15)) rfl dX7_runs_71 ?_
    refine lv_iload_n hx hb dX7_runs_74 rfl (lv_at hl 4 rfl) ?_
    refine lv_dup2_11 hx hb dX7_runs_75 rfl rfl ?_
    refine M_iald hx hb hK hρ hH 15 180 (by decide) f rfl (by omega) dX7_runs_76 ?_
    refine lv_iload_n hx hb dX7_runs_77 rfl (lv_at hl 2 rfl) ?_
    refine lv_iload hx hb dX7_runs_78 (lv_at hl 0 rfl) ?_
    refine lv_isub hx hb dX7_runs_80 ?_
    refine lv_iadd hx hb dX7_runs_81 ?_
    refine M_iast hx hb hK hρ hH 15 180 (by decide) f rfl (by omega) dX7_runs_82 (fun H locs hH => ?_)
    obtain ⟨F82, eF82⟩ : ∃ z, z = setA F69 15 f ((F69 15 f) + (v24 - v24)) := ⟨_, rfl⟩
    rw [← eF82] at hH
    refine lv_aload_n hx hb dX7_runs_83 rfl (lv_at hl 3 rfl) ?_
    refine lv_dup hx hb dX7_runs_84 rfl ?_
    refine M_get hx hb hts hiX7 hown hK hρ hH 27 (by decide) hf131 (v := .int (I 27)) rfl dX7_runs_85 ?_
    refine lv_iload_n hx hb dX7_runs_88 rfl (lv_at hl 2 rfl) ?_
    refine lv_iload hx hb dX7_runs_89 (lv_at hl 0 rfl) ?_
    refine lv_isub hx hb dX7_runs_91 ?_
    refine lv_iadd hx hb dX7_runs_92 ?_
    refine M_put hx hb hts hiX7 hown hK hρ hH 27 (by decide) hf131 rfl (by decide +kernel) rfl dX7_runs_93 (fun H locs hH => ?_)
    obtain ⟨I93, eI93⟩ : ∃ z, z = va_up I 27 ((I 27) + (v24 - v24)) := ⟨_, rfl⟩
    rw [← eI93] at hH
    refine lv_aload_n hx hb dX7_runs_96 rfl (lv_at hl 3 rfl) ?_
    refine lv_dup hx hb dX7_runs_97 rfl ?_
    refine M_get hx hb hts hiX7 hown hK hρ hH 26 (by decide) hf134 (v := .int (I93 26)) rfl dX7_runs_98 ?_
    refine lv_iload_n hx hb dX7_runs_101 rfl (lv_at hl 2 rfl) ?_
    refine lv_iadd hx hb dX7_runs_102 ?_
    refine M_put hx hb hts hiX7 hown hK hρ hH 26 (by decide) hf134 rfl (by decide +kernel) rfl dX7_runs_103 (fun H locs hH => ?_)
    obtain ⟨I103, eI103⟩ : ∃ z, z = va_up I93 26 ((I93 26) + v24) := ⟨_, rfl⟩
    rw [← eI103] at hH
    exact x_vret (I103, F82) hx hb hr hlocks hK hH (by subst ev24 eF69 eF82 eI93 eI103; simp only [sRuns]; rw [hgr, ix_n (by omega)]; (first | rw [if_pos c37] | rw [if_neg c37]); simp [up_n, setA_n]) dX7_runs_106

set_option maxHeartbeats 4000000 in
set_option maxRecDepth 100000 in
theorem c_X7_washes (l : Launch) (G : XG) (A : Nat → Prop) (ρ : Nat → Option Nat) (ad : Nat → Nat) (b : XW) (I : Nat → Int32) (F : Nat → Nat → Int32) (hρ : mA ρ ad) (now : Nat) (hw : I 0 = nI now) (hN : now < 3650) (f : Nat) (hf : f < 180) : Met l yX7_washes wsX7_washes ({ frames := 0, cells := 0, slots := 0, locals := 0 }) (va_Pc [.ref (ad 0), .int (nI f)] (xP G A (mw G ρ ad b I F))) (va_Qv (fun (u : (Nat → Int32) × (Nat → Nat → Int32)) => u = sWash I F now f) (fun u t => xB G A (mw G ρ ad b u.1 u.2) t) A) 0 0 A := by
  refine Met.ofW (cc := cX7_washes) (maxL := 4) (ret := none) (by decide) rfl ?_
  intro p e s m args below meth c s₁ B hml hv
  obtain ⟨rfl, hK, hH, hTt⟩ := hv
  have hx := B.exec
  have hb := B.bytes
  have hr := B.returns
  have hts := atoms_spec (ws := wsX7_washes) B.pre
  have hown : s.vm.findClass RX7 = some m.cls := findClass_of_methodNamed B.named
  have hlocks := B.notSynchronized
  have hiX7 : ∀ w ∈ wsX70, w ∈ wsX7_washes := by decide +kernel
  have hf13 := hts (.fieldLink RX7 13 "ResinWoodsModel" "rain" "[I") (by decide +kernel)
  have hf47 := hts (.fieldLink RX7 47 "ResinWoodsModel" "cups" "[I") (by decide +kernel)
  have hf100 := hts (.fieldLink RX7 100 "ResinWoodsModel" "now" "I") (by decide +kernel)
  have hf137 := hts (.fieldLink RX7 137 "ResinWoodsModel" "washed" "I") (by decide +kernel)
  have hl := lv_entry ([.ref (ad 0), .int (nI f)]) (n := 4) (Nat.le_of_ble_eq_true rfl)
  rw [lg_entry_eq]
  generalize (lg_sl ([.ref (ad 0), .int (nI f)]) ++ List.replicate (4 - (lg_sl ([.ref (ad 0), .int (nI f)])).length) Slot.unset).toArray = ls at hl ⊢
  have hl : lv_has ls 4 [(0, .ref (ad 0)), (1, .int (nI f))] := hl
  refine lv_iconst (v := 0) hx hb dX7_washes_0 (by decide) ?_
  refine lv_istore_n (lv' := [(2, .int 0), (0, .ref (ad 0)), (1, .int (nI f))]) hx hb dX7_washes_1 rfl hl (by decide) rfl (fun ls hl => ?_)
  suffices loop2 : ∀ (k2 : Nat) (g : Nat) (I1 : Nat → Int32) (F1 : Nat → Nat → Int32), (4 < g + k2) → (g ≤ 4) → (I1 = va_up I 28 (I 28 + l_sum (fun g => F 14 (4 * f + g) * F 2 now / 100) g)) → (F1 = washF F f g (F 2 now)) → ∀ (H : Heap) (locs : List Loc), xH G A s.heap H locs (mw G ρ ad b I1 F1) → ∀ (ls : Array Slot), lv_has ls 4 [(0, .ref (ad 0)), (1, .int (nI f)), (2, .int (nI g))] → W p l e (headSpec wsX7_washes _).room s m _ below meth c H locs 0 0 (MQ below _ _ s 0 0 A) (F0 m 2 ls []) from
    loop2 5 0 I F (by omega) (by omega) ((up_0 I 28 (by simp [l_sum])).symm) ((washF_0 F f _).symm) _ _ hH ls (lv_sub hl [1, 2, 0] rfl)
  intro k2
  induction k2 with
  | zero =>
    intro g I1 F1 hfuel hg hI hF H locs hH ls hl
    exact absurd hfuel (by omega)
  | succ k2 ih2 =>
    intro g I1 F1 hfuel hg hI hF H locs hH ls hl
    refine lv_iload_n hx hb dX7_washes_2 rfl (lv_at hl 2 rfl) ?_
    refine lv_iconst (v := 4) hx hb dX7_washes_3 (by decide) ?_
    refine lv_icmp_ge (tgt := 61) hx hb dX7_washes_4 (by decide) (fun c4 => ?_) (fun c4 => ?_)
    · have c4 : 4 ≤ g := (nI_leI (a := 4) (b := g) (by omega) (by omega)).mp c4
      exact x_vret (I1, F1) hx hb hr hlocks hK hH (by rw [hI, hF, show g = 4 by omega]; rfl) dX7_washes_61
    · have c4 : ¬ 4 ≤ g := fun zz => c4 ((nI_leI (a := 4) (b := g) (by omega) (by omega)).mpr zz)
      refine lv_aload_n hx hb dX7_washes_7 rfl (lv_at hl 0 rfl) ?_
      refine M_get hx hb hts hiX7 hown hK hρ hH 14 (by decide) hf47 (v := .ref (ad 14)) rfl dX7_washes_8 ?_
      refine lv_iconst (v := 4) hx hb dX7_washes_11 (by decide) ?_
      refine lv_iload_n hx hb dX7_washes_12 rfl (lv_at hl 1 rfl) ?_
      refine N_imul hx hb 4 f rfl rfl dX7_washes_13 ?_
      refine lv_iload_n hx hb dX7_washes_14 rfl (lv_at hl 2 rfl) ?_
      refine N_iadd hx hb (4 * f) g rfl rfl dX7_washes_15 ?_
      refine M_iald hx hb hK hρ hH 14 720 (by decide) ((4 * f) + g) rfl (by omega) dX7_washes_16 ?_
      refine lv_aload_n hx hb dX7_washes_17 rfl (lv_at hl 0 rfl) ?_
      refine M_get hx hb hts hiX7 hown hK hρ hH 2 (by decide) hf13 (v := .ref (ad 2)) rfl dX7_washes_18 ?_
      refine lv_aload_n hx hb dX7_washes_21 rfl (lv_at hl 0 rfl) ?_
      refine M_get hx hb hts hiX7 hown hK hρ hH 0 (by decide) hf100 (v := .int (nI now)) (congrArg (fun z => some (Value.int z)) (show I1 0 = nI now by first | exact hw | (rw [hI]; exact hw))) dX7_washes_22 ?_
      refine M_iald hx hb hK hρ hH 2 3650 (by decide) now rfl (by omega) dX7_washes_25 ?_
      refine lv_imul hx hb dX7_washes_26 ?_
      refine lv_bipush (v := 100) hx hb dX7_washes_27 (by decide) ?_
      refine lv_idiv hx hb dX7_washes_29 (by decide) ?_
      refine lv_topi (fun v30 ev30 => ?_)
      refine lv_istore_n (lv' := [(3, .int v30), (0, .ref (ad 0)), (1, .int (nI f)), (2, .int (nI g))]) hx hb dX7_washes_30 rfl hl (by decide) rfl (fun ls hl => ?_)
      refine lv_aload_n hx hb dX7_washes_31 rfl (lv_at hl 1 rfl) ?_
      refine M_get hx hb hts hiX7 hown hK hρ hH 14 (by decide) hf47 (v := .ref (ad 14)) rfl dX7_washes_32 ?_
      refine lv_iconst (v := 4) hx hb dX7_washes_35 (by decide) ?_
      refine lv_iload_n hx hb dX7_washes_36 rfl (lv_at hl 2 rfl) ?_
      refine N_imul hx hb 4 f rfl rfl dX7_washes_37 ?_
      refine lv_iload_n hx hb dX7_washes_38 rfl (lv_at hl 3 rfl) ?_
      refine N_iadd hx hb (4 * f) g rfl rfl dX7_washes_39 ?_
      refine lv_dup2_11 hx hb dX7_washes_40 rfl rfl ?_
      refine M_iald hx hb hK hρ hH 14 720 (by decide) ((4 * f) + g) rfl (by omega) dX7_washes_41 ?_
      refine lv_iload_n hx hb dX7_washes_42 rfl (lv_at hl 0 rfl) ?_
      refine lv_isub hx hb dX7_washes_43 ?_
      refine M_iast hx hb hK hρ hH 14 720 (by decide) ((4 * f) + g) rfl (by omega) dX7_washes_44 (fun H locs hH => ?_)
      obtain ⟨F44, eF44⟩ : ∃ z, z = setA F1 14 ((4 * f) + g) ((F1 14 ((4 * f) + g)) - v30) := ⟨_, rfl⟩
      rw [← eF44] at hH
      refine lv_aload_n hx hb dX7_washes_45 rfl (lv_at hl 1 rfl) ?_
      refine lv_dup hx hb dX7_washes_46 rfl ?_
      refine M_get hx hb hts hiX7 hown hK hρ hH 28 (by decide) hf137 (v := .int (I1 28)) rfl dX7_washes_47 ?_
      refine lv_iload_n hx hb dX7_washes_50 rfl (lv_at hl 0 rfl) ?_
      refine lv_iadd hx hb dX7_washes_51 ?_
      refine M_put hx hb hts hiX7 hown hK hρ hH 28 (by decide) hf137 rfl (by decide +kernel) rfl dX7_washes_52 (fun H locs hH => ?_)
      obtain ⟨I52, eI52⟩ : ∃ z, z = va_up I1 28 ((I1 28) + v30) := ⟨_, rfl⟩
      rw [← eI52] at hH
      refine lv_iinc (v := nI (g + 1)) (lv' := [(2, .int (nI (g + 1))), (3, .int v30), (0, .ref (ad 0)), (1, .int (nI f))]) hx hb dX7_washes_55 hl (k := 3) rfl (by exact nI_add _ 1) (by decide) rfl (fun ls hl => ?_)
      refine lv_goto (tgt := 2) hx hb dX7_washes_58 (by decide) ?_
      exact ih2 (g + 1) I52 F44 (by omega) (by omega) (by rw [eI52, ev30, hF, washF_at, washF_ne F f g _ (show 2 ≠ 14 by decide), hI, up_up, up_k]; congr 1; simp only [l_sum]; rw [Int32.add_assoc]) (by rw [eF44, ev30, hF, washF_at, washF_ne F f g _ (show 2 ≠ 14 by decide)]; exact washF_s F f g _) _ _ hH ls (lv_sub hl [2, 3, 0] rfl)

set_option maxHeartbeats 4000000 in
set_option maxRecDepth 100000 in
theorem c_X7_room (l : Launch) (G : XG) (A : Nat → Prop) (ρ : Nat → Option Nat) (ad : Nat → Nat) (b : XW) (I : Nat → Int32) (F : Nat → Nat → Int32) (hρ : mA ρ ad) (nB : Nat) (hnB : I 16 = nI nB) (hB : nB ≤ 200) (wd : Int32) : Met l yX7_room wsX7_room ({ frames := 2, cells := 0, slots := 0, locals := 44 }) (va_Pc [.ref (ad 0), .int wd] (xP G A (mw G ρ ad b I F))) (va_Qi (fun (r : Int32) (u : (Nat → Int32) × (Nat → Nat → Int32)) => r = roomS F wd nB ∧ u = (I, F)) (fun u t => xB G A (mw G ρ ad b u.1 u.2) t) A) 0 0 A := by
  refine Met.ofW (cc := cX7_room) (maxL := 4) (ret := (some .int)) (by decide) rfl ?_
  intro p e s m args below meth c s₁ B hml hv
  obtain ⟨rfl, hK, hH, hTt⟩ := hv
  have hx := B.exec
  have hb := B.bytes
  have hr := B.returns
  have hts := atoms_spec (ws := wsX7_room) B.pre
  have hown : s.vm.findClass RX7 = some m.cls := findClass_of_methodNamed B.named
  have hlocks := B.notSynchronized
  have hiX7 : ∀ w ∈ wsX70, w ∈ wsX7_room := by decide +kernel
  have hf53 := hts (.fieldLink RX7 53 "ResinWoodsModel" "barrelWood" "[I") (by decide +kernel)
  have hf143 := hts (.fieldLink RX7 143 "ResinWoodsModel" "barrels" "I") (by decide +kernel)
  have hl := lv_entry ([.ref (ad 0), .int wd]) (n := 4) (Nat.le_of_ble_eq_true rfl)
  rw [lg_entry_eq]
  generalize (lg_sl ([.ref (ad 0), .int wd]) ++ List.replicate (4 - (lg_sl ([.ref (ad 0), .int wd])).length) Slot.unset).toArray = ls at hl ⊢
  have hl : lv_has ls 4 [(0, .ref (ad 0)), (1, .int wd)] := hl
  refine lv_iconst (v := 0) hx hb dX7_room_0 (by decide) ?_
  refine lv_istore_n (lv' := [(2, .int 0), (0, .ref (ad 0)), (1, .int wd)]) hx hb dX7_room_1 rfl hl (by decide) rfl (fun ls hl => ?_)
  refine lv_iconst (v := 0) hx hb dX7_room_2 (by decide) ?_
  refine lv_istore_n (lv' := [(3, .int 0), (2, .int 0), (0, .ref (ad 0)), (1, .int wd)]) hx hb dX7_room_3 rfl hl (by decide) rfl (fun ls hl => ?_)
  suffices loop4 : ∀ (k4 : Nat) (q : Nat) (acc : Int32), (nB < q + k4) → (q ≤ nB) → (acc = roomS F wd q) → ∀ (H : Heap) (locs : List Loc), xH G A s.heap H locs (mw G ρ ad b I F) → ∀ (ls : Array Slot), lv_has ls 4 [(0, .ref (ad 0)), (1, .int wd), (2, .int acc), (3, .int (nI q))] → W p l e (headSpec wsX7_room _).room s m _ below meth c H locs 0 0 (MQ below _ _ s 0 0 A) (F0 m 4 ls []) from
    loop4 (nB + 1) 0 0 (by omega) (by omega) (rfl) _ _ hH ls (lv_sub hl [2, 3, 1, 0] rfl)
  intro k4
  induction k4 with
  | zero =>
    intro q acc hfuel hq ha H locs hH ls hl
    exact absurd hfuel (by omega)
  | succ k4 ih4 =>
    intro q acc hfuel hq ha H locs hH ls hl
    refine lv_iload_n hx hb dX7_room_4 rfl (lv_at hl 3 rfl) ?_
    refine lv_aload_n hx hb dX7_room_5 rfl (lv_at hl 0 rfl) ?_
    refine M_get hx hb hts hiX7 hown hK hρ hH 16 (by decide) hf143 (v := .int (nI nB)) (congrArg (fun z => some (Value.int z)) hnB) dX7_room_6 ?_
    refine lv_icmp_ge (tgt := 48) hx hb dX7_room_9 (by decide) (fun c9 => ?_) (fun c9 => ?_)
    · have c9 : nB ≤ q := (nI_leI (a := nB) (b := q) (by omega) (by omega)).mp c9
      refine lv_iload_n hx hb dX7_room_48 rfl (lv_at hl 2 rfl) ?_
      exact x_iret (v := acc) (I, F) hx hb hr hlocks hK hH (⟨by rw [ha, show q = nB by omega], rfl⟩) dX7_room_49
    · have c9 : ¬ nB ≤ q := fun zz => c9 ((nI_leI (a := nB) (b := q) (by omega) (by omega)).mpr zz)
      refine lv_aload_n hx hb dX7_room_12 rfl (lv_at hl 0 rfl) ?_
      refine M_get hx hb hts hiX7 hown hK hρ hH 17 (by decide) hf53 (v := .ref (ad 17)) rfl dX7_room_13 ?_
      refine lv_iload_n hx hb dX7_room_16 rfl (lv_at hl 3 rfl) ?_
      refine M_iald hx hb hK hρ hH 17 200 (by decide) q rfl (by omega) dX7_room_17 ?_
      refine lv_iload_n hx hb dX7_room_18 rfl (lv_at hl 1 rfl) ?_
      refine lv_icmp_ne (tgt := 42) hx hb dX7_room_19 (by decide) (fun c19 => ?_) (fun c19 => ?_)
      · refine lv_iinc (v := nI (q + 1)) (lv' := [(3, .int (nI (q + 1))), (0, .ref (ad 0)), (1, .int wd), (2, .int acc)]) hx hb dX7_room_42 hl (k := 3) rfl (by exact nI_add _ 1) (by decide) rfl (fun ls hl => ?_)
        refine lv_goto (tgt := 4) hx hb dX7_room_45 (by decide) ?_
        exact ih4 (q + 1) acc (by omega) (by omega) (by first | (rw [ev41, ha]; simp only [roomS]; rw [if_pos c19, if_pos c27]) | (rw [ha]; simp only [roomS]; first | (rw [if_pos c19, if_neg c27, Int32.add_zero]; done) | (rw [if_neg c19, Int32.add_zero]; done))) _ _ hH ls (lv_sub hl [1, 2, 3, 0] rfl)
      · refine lv_aload_n hx hb dX7_room_22 rfl (lv_at hl 0 rfl) ?_
        refine lv_iload_n hx hb dX7_room_23 rfl (lv_at hl 3 rfl) ?_
        refine x_calli (va_runV (As := [.int (nI q)]) (rest := []) ⟨hx, hb, hml, hown, hts⟩ (c_X7_isFull l G A ρ ad b I F hρ q (by omega)) (cwV 1 hts gX7_room_X7_isFull rfl rfl rfl (by decide +kernel) ⟨Nat.le_of_ble_eq_true rfl, Nat.le_of_ble_eq_true rfl⟩) (x_preV hK hH hTt (mw_ob hρ) rfl [.int (nI q)]) rfl rfl hl.1 rfl (lv_room (Nat.le_of_ble_eq_true rfl)) dX7_room_24 ⟨Nat.le_of_ble_eq_true rfl, Nat.le_of_ble_eq_true rfl⟩) hH (fun r24 u H locs hp hH => ?_)
        obtain ⟨rfl, rfl⟩ := hp
        have hH : xH G A s.heap H locs (mw G ρ ad b I F) := hH
        refine lv_if_ne (tgt := 42) hx hb dX7_room_27 (by decide) (fun c27 => ?_) (fun c27 => ?_)
        · refine lv_iinc (v := nI (q + 1)) (lv' := [(3, .int (nI (q + 1))), (0, .ref (ad 0)), (1, .int wd), (2, .int acc)]) hx hb dX7_room_42 hl (k := 3) rfl (by exact nI_add _ 1) (by decide) rfl (fun ls hl => ?_)
          refine lv_goto (tgt := 4) hx hb dX7_room_45 (by decide) ?_
          exact ih4 (q + 1) acc (by omega) (by omega) (by first | (rw [ev41, ha]; simp only [roomS]; rw [if_pos c19, if_pos c27]) | (rw [ha]; simp only [roomS]; first | (rw [if_pos c19, if_neg c27, Int32.add_zero]; done) | (rw [if_neg c19, Int32.add_zero]; done))) _ _ hH ls (lv_sub hl [1, 2, 3, 0] rfl)
        · refine lv_iload_n hx hb dX7_room_30 rfl (lv_at hl 2 rfl) ?_
          refine lv_sipush (v := 1000) hx hb dX7_room_31 (by decide) ?_
          refine lv_aload_n hx hb dX7_room_34 rfl (lv_at hl 0 rfl) ?_
          refine lv_iload_n hx hb dX7_room_35 rfl (lv_at hl 3 rfl) ?_
          refine x_calli (va_runV (As := [.int (nI q)]) (rest := [.int 1000, .int acc]) ⟨hx, hb, hml, hown, hts⟩ (c_X7_has l G A ρ ad b I F hρ q (by omega)) (cwV 1 hts gX7_room_X7_has rfl rfl rfl (by decide +kernel) ⟨Nat.le_of_ble_eq_true rfl, Nat.le_of_ble_eq_true rfl⟩) (x_preV hK hH hTt (mw_ob hρ) rfl [.int (nI q)]) rfl rfl hl.1 rfl (lv_room (Nat.le_of_ble_eq_true rfl)) dX7_room_36 ⟨Nat.le_of_ble_eq_true rfl, Nat.le_of_ble_eq_true rfl⟩) hH (fun r36 u H locs hp hH => ?_)
          obtain ⟨rfl, rfl⟩ := hp
          have hH : xH G A s.heap H locs (mw G ρ ad b I F) := hH
          refine lv_isub hx hb dX7_room_39 ?_
          refine lv_iadd hx hb dX7_room_40 ?_
          refine lv_topi (fun v41 ev41 => ?_)
          refine lv_istore_n (lv' := [(2, .int v41), (0, .ref (ad 0)), (1, .int wd), (3, .int (nI q))]) hx hb dX7_room_41 rfl hl (by decide) rfl (fun ls hl => ?_)
          refine lv_iinc (v := nI (q + 1)) (lv' := [(3, .int (nI (q + 1))), (2, .int v41), (0, .ref (ad 0)), (1, .int wd)]) hx hb dX7_room_42 hl (k := 3) rfl (by exact nI_add _ 1) (by decide) rfl (fun ls hl => ?_)
          refine lv_goto (tgt := 4) hx hb dX7_room_45 (by decide) ?_
          exact ih4 (q + 1) v41 (by omega) (by omega) (by first | (rw [ev41, ha]; simp only [roomS]; rw [if_pos c19, if_pos c27]) | (rw [ha]; simp only [roomS]; first | (rw [if_pos c19, if_neg c27, Int32.add_zero]; done) | (rw [if_neg c19, Int32.add_zero]; done))) _ _ hH ls (lv_sub hl [2, 3, 1, 0] rfl)

set_option maxHeartbeats 4000000 in
set_option maxRecDepth 100000 in
theorem c_X7_face (l : Launch) (G : XG) (A : Nat → Prop) (ρ : Nat → Option Nat) (ad : Nat → Nat) (b : XW) (I : Nat → Int32) (F : Nat → Nat → Int32) (hρ : mA ρ ad) (nT : Nat) (hn : I 3 = nI nT) (hT : nT ≤ 60) (op : Nat → Nat) (hop : ∀ t, t < nT → F 9 t = nI (op t) ∧ op t ≤ 3) (t i what : Int32) : Met l yX7_face wsX7_face ({ frames := 2, cells := 0, slots := 0, locals := 43 }) (va_Pc [.ref (ad 0), .int t, .int i, .int what] (xP G A (mw G ρ ad b I F))) (va_Qi (fun (r : Int32) (u : (Nat → Int32) × (Nat → Nat → Int32)) => r = sFace I F t i what ∧ u = (I, F)) (fun u t => xB G A (mw G ρ ad b u.1 u.2) t) A) 0 0 A := by
  refine Met.ofW (cc := cX7_face) (maxL := 5) (ret := (some .int)) (by decide) rfl ?_
  intro p e s m args below meth c s₁ B hml hv
  obtain ⟨rfl, hK, hH, hTt⟩ := hv
  have hx := B.exec
  have hb := B.bytes
  have hr := B.returns
  have hts := atoms_spec (ws := wsX7_face) B.pre
  have hown : s.vm.findClass RX7 = some m.cls := findClass_of_methodNamed B.named
  have hlocks := B.notSynchronized
  have hiX7 : ∀ w ∈ wsX70, w ∈ wsX7_face := by decide +kernel
  have hf32 := hts (.fieldLink RX7 32 "ResinWoodsModel" "opened" "[I") (by decide +kernel)
  have hf38 := hts (.fieldLink RX7 38 "ResinWoodsModel" "streaks" "[I") (by decide +kernel)
  have hf41 := hts (.fieldLink RX7 41 "ResinWoodsModel" "latest" "[I") (by decide +kernel)
  have hf44 := hts (.fieldLink RX7 44 "ResinWoodsModel" "openYear" "[I") (by decide +kernel)
  have hf47 := hts (.fieldLink RX7 47 "ResinWoodsModel" "cups" "[I") (by decide +kernel)
  have hf50 := hts (.fieldLink RX7 50 "ResinWoodsModel" "overOf" "[I") (by decide +kernel)
  have hl := lv_entry ([.ref (ad 0), .int t, .int i, .int what]) (n := 5) (Nat.le_of_ble_eq_true rfl)
  rw [lg_entry_eq]
  generalize (lg_sl ([.ref (ad 0), .int t, .int i, .int what]) ++ List.replicate (5 - (lg_sl ([.ref (ad 0), .int t, .int i, .int what])).length) Slot.unset).toArray = ls at hl ⊢
  have hl : lv_has ls 5 [(0, .ref (ad 0)), (1, .int t), (2, .int i), (3, .int what)] := hl
  refine lv_aload_n hx hb dX7_face_0 rfl (lv_at hl 0 rfl) ?_
  refine lv_iload_n hx hb dX7_face_1 rfl (lv_at hl 1 rfl) ?_
  refine x_calli (va_runV (As := [.int t]) (rest := []) ⟨hx, hb, hml, hown, hts⟩ (c_X7_isTree l G A ρ ad b I F hρ t) (cwV 1 hts gX7_face_X7_isTree rfl rfl rfl (by decide +kernel) ⟨Nat.le_of_ble_eq_true rfl, Nat.le_of_ble_eq_true rfl⟩) (x_preV hK hH hTt (mw_ob hρ) rfl [.int t]) rfl rfl hl.1 rfl (lv_room (Nat.le_of_ble_eq_true rfl)) dX7_face_2 ⟨Nat.le_of_ble_eq_true rfl, Nat.le_of_ble_eq_true rfl⟩) hH (fun r2 u H locs hp hH => ?_)
  obtain ⟨rfl, rfl⟩ := hp
  have hH : xH G A s.heap H locs (mw G ρ ad b I F) := hH
  refine lv_if_eq (tgt := 24) hx hb dX7_face_5 (by decide) (fun c5 => ?_) (fun c5 => ?_)
  · refine lv_iconst (v := (-1)) hx hb dX7_face_24 (by decide) ?_
    exact x_iret (v := (-1)) (I, F) hx hb hr hlocks hK hH (⟨by simp only [sFace]; first | (rw [if_pos c5]; done) | (rw [if_neg c5, ix_n (show t1 < 2 ^ 31 by omega)]; first | (rw [if_pos c21]; done) | (rw [if_neg c21, ix_n (show i1 < 2 ^ 31 by omega)]; first | (rw [if_neg c40, ix_n (show q < 2 ^ 31 by omega)]; done) | (rw [if_pos c40]; first | rfl | (rw [if_neg q0, if_neg q1, if_neg q2, if_neg q3, if_neg q8]; done) | (exact absurd c40 (by decide))))), rfl⟩) dX7_face_25
  · obtain ⟨t1, ht1, rfl⟩ := inI_pred (n := nT) (by rw [← hn]; exact binI_1.mp c5) (by omega)
    have hop1 := (hop t1 ht1).2
    have hop2 := (hop t1 ht1).1
    refine lv_iload_n hx hb dX7_face_8 rfl (lv_at hl 2 rfl) ?_
    refine lv_iconst (v := 0) hx hb dX7_face_9 (by decide) ?_
    refine lv_aload_n hx hb dX7_face_10 rfl (lv_at hl 0 rfl) ?_
    refine M_get hx hb hts hiX7 hown hK hρ hH 9 (by decide) hf32 (v := .ref (ad 9)) rfl dX7_face_11 ?_
    refine lv_iload_n hx hb dX7_face_14 rfl (lv_at hl 1 rfl) ?_
    refine M_iald hx hb hK hρ hH 9 60 (by decide) t1 rfl (by omega) dX7_face_15 ?_
    refine lv_iconst (v := 1) hx hb dX7_face_16 (by decide) ?_
    refine lv_isub hx hb dX7_face_17 ?_
    refine x_calli (va_runS (As := [.int i, .int 0, .int ((F 9 t1) - 1)]) (rest := []) ⟨hx, hb, hml, hown, hts⟩ (c_X7_in l G A (mw G ρ ad b I F) i 0 ((F 9 t1) - 1)) (va_cwS 3 hts gX7_face_X7_in rfl rfl rfl (by decide +kernel) ⟨Nat.le_of_ble_eq_true rfl, Nat.le_of_ble_eq_true rfl⟩) (x_preS hK hH hTt [.int i, .int 0, .int ((F 9 t1) - 1)]) rfl rfl hl.1 rfl (lv_room (Nat.le_of_ble_eq_true rfl)) dX7_face_18 ⟨Nat.le_of_ble_eq_true rfl, Nat.le_of_ble_eq_true rfl⟩) hH (fun r18 u H locs hp hH => ?_)
    subst hp
    have hH : xH G A s.heap H locs (mw G ρ ad b I F) := hH
    refine lv_if_ne (tgt := 26) hx hb dX7_face_21 (by decide) (fun c21 => ?_) (fun c21 => ?_)
    · obtain ⟨i1, hi1, rfl⟩ := inI_pred (n := op t1) (by rw [← hop2]; exact binI_1.mp c21) (by omega)
      refine lv_iconst (v := 3) hx hb dX7_face_26 (by decide) ?_
      refine lv_iload_n hx hb dX7_face_27 rfl (lv_at hl 1 rfl) ?_
      refine N_imul hx hb 3 t1 rfl rfl dX7_face_28 ?_
      refine lv_iload_n hx hb dX7_face_29 rfl (lv_at hl 2 rfl) ?_
      refine N_iadd hx hb (3 * t1) i1 rfl rfl dX7_face_30 ?_
      refine lv_istore (lv' := [(4, .int (nI ((3 * t1) + i1))), (0, .ref (ad 0)), (1, .int (nI t1)), (2, .int (nI i1)), (3, .int what)]) hx hb dX7_face_31 hl (by decide) rfl (fun ls hl => ?_)
      refine lv_iload_n hx hb dX7_face_33 rfl (lv_at hl 4 rfl) ?_
      refine lv_iconst (v := 4) hx hb dX7_face_34 (by decide) ?_
      refine lv_bipush (v := 7) hx hb dX7_face_35 (by decide) ?_
      refine x_calli (va_runS (As := [.int what, .int 4, .int 7]) (rest := []) ⟨hx, hb, hml, hown, hts⟩ (c_X7_in l G A (mw G ρ ad b I F) what 4 7) (va_cwS 3 hts gX7_face_X7_in rfl rfl rfl (by decide +kernel) ⟨Nat.le_of_ble_eq_true rfl, Nat.le_of_ble_eq_true rfl⟩) (x_preS hK hH hTt [.int what, .int 4, .int 7]) rfl rfl hl.1 rfl (lv_room (Nat.le_of_ble_eq_true rfl)) dX7_face_37 ⟨Nat.le_of_ble_eq_true rfl, Nat.le_of_ble_eq_true rfl⟩) hH (fun r37 u H locs hp hH => ?_)
      subst hp
      have hH : xH G A s.heap H locs (mw G ρ ad b I F) := hH
      refine lv_if_eq (tgt := 57) hx hb dX7_face_40 (by decide) (fun c40 => ?_) (fun c40 => ?_)
      · refine lv_iload_n hx hb dX7_face_57 rfl (lv_at hl 4 rfl) ?_
        by_cases q0 : what = 0
        · subst q0
          refine lv_tableIn (tgt := 108) (off := 50) hx hb dX7_face_58 (by decide) (by decide) (by decide) (by decide) ?_
          refine lv_aload_n hx hb dX7_face_108 rfl (lv_at hl 1 rfl) ?_
          refine M_get hx hb hts hiX7 hown hK hρ hH 11 (by decide) hf38 (v := .ref (ad 11)) rfl dX7_face_109 ?_
          refine lv_iload hx hb dX7_face_112 (lv_at hl 0 rfl) ?_
          refine M_iald hx hb hK hρ hH 11 180 (by decide) ((3 * t1) + i1) rfl (by omega) dX7_face_114 ?_
          exact x_iret (v := F 11 ((3 * t1) + i1)) (I, F) hx hb hr hlocks hK hH (⟨by simp only [sFace]; first | (rw [if_pos c5]; done) | (rw [if_neg c5, ix_n (show t1 < 2 ^ 31 by omega)]; first | (rw [if_pos c21]; done) | (rw [if_neg c21, ix_n (show i1 < 2 ^ 31 by omega)]; first | (rw [if_neg c40, ix_n (show q < 2 ^ 31 by omega)]; done) | (rw [if_pos c40]; first | rfl | (rw [if_neg q0, if_neg q1, if_neg q2, if_neg q3, if_neg q8]; done) | (exact absurd c40 (by decide))))), rfl⟩) dX7_face_115
        by_cases q1 : what = 1
        · subst q1
          refine lv_tableIn (tgt := 116) (off := 58) hx hb dX7_face_58 (by decide) (by decide) (by decide) (by decide) ?_
          refine lv_aload_n hx hb dX7_face_116 rfl (lv_at hl 1 rfl) ?_
          refine M_get hx hb hts hiX7 hown hK hρ hH 12 (by decide) hf41 (v := .ref (ad 12)) rfl dX7_face_117 ?_
          refine lv_iload hx hb dX7_face_120 (lv_at hl 0 rfl) ?_
          refine M_iald hx hb hK hρ hH 12 180 (by decide) ((3 * t1) + i1) rfl (by omega) dX7_face_122 ?_
          exact x_iret (v := F 12 ((3 * t1) + i1)) (I, F) hx hb hr hlocks hK hH (⟨by simp only [sFace]; first | (rw [if_pos c5]; done) | (rw [if_neg c5, ix_n (show t1 < 2 ^ 31 by omega)]; first | (rw [if_pos c21]; done) | (rw [if_neg c21, ix_n (show i1 < 2 ^ 31 by omega)]; first | (rw [if_neg c40, ix_n (show q < 2 ^ 31 by omega)]; done) | (rw [if_pos c40]; first | rfl | (rw [if_neg q0, if_neg q1, if_neg q2, if_neg q3, if_neg q8]; done) | (exact absurd c40 (by decide))))), rfl⟩) dX7_face_123
        by_cases q2 : what = 2
        · subst q2
          refine lv_tableIn (tgt := 124) (off := 66) hx hb dX7_face_58 (by decide) (by decide) (by decide) (by decide) ?_
          refine lv_aload_n hx hb dX7_face_124 rfl (lv_at hl 1 rfl) ?_
          refine M_get hx hb hts hiX7 hown hK hρ hH 13 (by decide) hf44 (v := .ref (ad 13)) rfl dX7_face_125 ?_
          refine lv_iload hx hb dX7_face_128 (lv_at hl 0 rfl) ?_
          refine M_iald hx hb hK hρ hH 13 180 (by decide) ((3 * t1) + i1) rfl (by omega) dX7_face_130 ?_
          exact x_iret (v := F 13 ((3 * t1) + i1)) (I, F) hx hb hr hlocks hK hH (⟨by simp only [sFace]; first | (rw [if_pos c5]; done) | (rw [if_neg c5, ix_n (show t1 < 2 ^ 31 by omega)]; first | (rw [if_pos c21]; done) | (rw [if_neg c21, ix_n (show i1 < 2 ^ 31 by omega)]; first | (rw [if_neg c40, ix_n (show q < 2 ^ 31 by omega)]; done) | (rw [if_pos c40]; first | rfl | (rw [if_neg q0, if_neg q1, if_neg q2, if_neg q3, if_neg q8]; done) | (exact absurd c40 (by decide))))), rfl⟩) dX7_face_131
        by_cases q3 : what = 3
        · subst q3
          refine lv_tableIn (tgt := 132) (off := 74) hx hb dX7_face_58 (by decide) (by decide) (by decide) (by decide) ?_
          refine lv_aload_n hx hb dX7_face_132 rfl (lv_at hl 1 rfl) ?_
          refine lv_iload hx hb dX7_face_133 (lv_at hl 0 rfl) ?_
          refine x_calli (va_runV (As := [.int (nI ((3 * t1) + i1))]) (rest := []) ⟨hx, hb, hml, hown, hts⟩ (c_X7_inCup l G A ρ ad b I F hρ ((3 * t1) + i1) (by omega)) (cwV 1 hts gX7_face_X7_inCup rfl rfl rfl (by decide +kernel) ⟨Nat.le_of_ble_eq_true rfl, Nat.le_of_ble_eq_true rfl⟩) (x_preV hK hH hTt (mw_ob hρ) rfl [.int (nI ((3 * t1) + i1))]) rfl rfl hl.1 rfl (lv_room (Nat.le_of_ble_eq_true rfl)) dX7_face_135 ⟨Nat.le_of_ble_eq_true rfl, Nat.le_of_ble_eq_true rfl⟩) hH (fun r135 u H locs hp hH => ?_)
          obtain ⟨rfl, rfl⟩ := hp
          have hH : xH G A s.heap H locs (mw G ρ ad b I F) := hH
          exact x_iret (v := cupS F ((3 * t1) + i1)) (I, F) hx hb hr hlocks hK hH (⟨by simp only [sFace]; first | (rw [if_pos c5]; done) | (rw [if_neg c5, ix_n (show t1 < 2 ^ 31 by omega)]; first | (rw [if_pos c21]; done) | (rw [if_neg c21, ix_n (show i1 < 2 ^ 31 by omega)]; first | (rw [if_neg c40, ix_n (show q < 2 ^ 31 by omega)]; done) | (rw [if_pos c40]; first | rfl | (rw [if_neg q0, if_neg q1, if_neg q2, if_neg q3, if_neg q8]; done) | (exact absurd c40 (by decide))))), rfl⟩) dX7_face_138
        by_cases q4 : what = 4
        · subst q4
          refine lv_tableIn (tgt := 147) (off := 89) hx hb dX7_face_58 (by decide) (by decide) (by decide) (by decide) ?_
          refine lv_iconst (v := (-1)) hx hb dX7_face_147 (by decide) ?_
          exact x_iret (v := (-1)) (I, F) hx hb hr hlocks hK hH (⟨by simp only [sFace]; first | (rw [if_pos c5]; done) | (rw [if_neg c5, ix_n (show t1 < 2 ^ 31 by omega)]; first | (rw [if_pos c21]; done) | (rw [if_neg c21, ix_n (show i1 < 2 ^ 31 by omega)]; first | (rw [if_neg c40, ix_n (show q < 2 ^ 31 by omega)]; done) | (rw [if_pos c40]; first | rfl | (rw [if_neg q0, if_neg q1, if_neg q2, if_neg q3, if_neg q8]; done) | (exact absurd c40 (by decide))))), rfl⟩) dX7_face_148
        by_cases q5 : what = 5
        · subst q5
          refine lv_tableIn (tgt := 147) (off := 89) hx hb dX7_face_58 (by decide) (by decide) (by decide) (by decide) ?_
          refine lv_iconst (v := (-1)) hx hb dX7_face_147 (by decide) ?_
          exact x_iret (v := (-1)) (I, F) hx hb hr hlocks hK hH (⟨by simp only [sFace]; first | (rw [if_pos c5]; done) | (rw [if_neg c5, ix_n (show t1 < 2 ^ 31 by omega)]; first | (rw [if_pos c21]; done) | (rw [if_neg c21, ix_n (show i1 < 2 ^ 31 by omega)]; first | (rw [if_neg c40, ix_n (show q < 2 ^ 31 by omega)]; done) | (rw [if_pos c40]; first | rfl | (rw [if_neg q0, if_neg q1, if_neg q2, if_neg q3, if_neg q8]; done) | (exact absurd c40 (by decide))))), rfl⟩) dX7_face_148
        by_cases q6 : what = 6
        · subst q6
          refine lv_tableIn (tgt := 147) (off := 89) hx hb dX7_face_58 (by decide) (by decide) (by decide) (by decide) ?_
          refine lv_iconst (v := (-1)) hx hb dX7_face_147 (by decide) ?_
          exact x_iret (v := (-1)) (I, F) hx hb hr hlocks hK hH (⟨by simp only [sFace]; first | (rw [if_pos c5]; done) | (rw [if_neg c5, ix_n (show t1 < 2 ^ 31 by omega)]; first | (rw [if_pos c21]; done) | (rw [if_neg c21, ix_n (show i1 < 2 ^ 31 by omega)]; first | (rw [if_neg c40, ix_n (show q < 2 ^ 31 by omega)]; done) | (rw [if_pos c40]; first | rfl | (rw [if_neg q0, if_neg q1, if_neg q2, if_neg q3, if_neg q8]; done) | (exact absurd c40 (by decide))))), rfl⟩) dX7_face_148
        by_cases q7 : what = 7
        · subst q7
          refine lv_tableIn (tgt := 147) (off := 89) hx hb dX7_face_58 (by decide) (by decide) (by decide) (by decide) ?_
          refine lv_iconst (v := (-1)) hx hb dX7_face_147 (by decide) ?_
          exact x_iret (v := (-1)) (I, F) hx hb hr hlocks hK hH (⟨by simp only [sFace]; first | (rw [if_pos c5]; done) | (rw [if_neg c5, ix_n (show t1 < 2 ^ 31 by omega)]; first | (rw [if_pos c21]; done) | (rw [if_neg c21, ix_n (show i1 < 2 ^ 31 by omega)]; first | (rw [if_neg c40, ix_n (show q < 2 ^ 31 by omega)]; done) | (rw [if_pos c40]; first | rfl | (rw [if_neg q0, if_neg q1, if_neg q2, if_neg q3, if_neg q8]; done) | (exact absurd c40 (by decide))))), rfl⟩) dX7_face_148
        by_cases q8 : what = 8
        · subst q8
          refine lv_tableIn (tgt := 139) (off := 81) hx hb dX7_face_58 (by decide) (by decide) (by decide) (by decide) ?_
          refine lv_aload_n hx hb dX7_face_139 rfl (lv_at hl 1 rfl) ?_
          refine M_get hx hb hts hiX7 hown hK hρ hH 15 (by decide) hf50 (v := .ref (ad 15)) rfl dX7_face_140 ?_
          refine lv_iload hx hb dX7_face_143 (lv_at hl 0 rfl) ?_
          refine M_iald hx hb hK hρ hH 15 180 (by decide) ((3 * t1) + i1) rfl (by omega) dX7_face_145 ?_
          exact x_iret (v := F 15 ((3 * t1) + i1)) (I, F) hx hb hr hlocks hK hH (⟨by simp only [sFace]; first | (rw [if_pos c5]; done) | (rw [if_neg c5, ix_n (show t1 < 2 ^ 31 by omega)]; first | (rw [if_pos c21]; done) | (rw [if_neg c21, ix_n (show i1 < 2 ^ 31 by omega)]; first | (rw [if_neg c40, ix_n (show q < 2 ^ 31 by omega)]; done) | (rw [if_pos c40]; first | rfl | (rw [if_neg q0, if_neg q1, if_neg q2, if_neg q3, if_neg q8]; done) | (exact absurd c40 (by decide))))), rfl⟩) dX7_face_146
        refine lv_tableOut (tgt := 147) hx hb dX7_face_58 (swOut 8 (fun k hk => by rcases (show k = 0 ∨ k = 1 ∨ k = 2 ∨ k = 3 ∨ k = 4 ∨ k = 5 ∨ k = 6 ∨ k = 7 ∨ k = 8 by omega) with rfl | rfl | rfl | rfl | rfl | rfl | rfl | rfl | rfl <;> assumption)) (by decide) ?_
        refine lv_iconst (v := (-1)) hx hb dX7_face_147 (by decide) ?_
        exact x_iret (v := (-1)) (I, F) hx hb hr hlocks hK hH (⟨by simp only [sFace]; first | (rw [if_pos c5]; done) | (rw [if_neg c5, ix_n (show t1 < 2 ^ 31 by omega)]; first | (rw [if_pos c21]; done) | (rw [if_neg c21, ix_n (show i1 < 2 ^ 31 by omega)]; first | (rw [if_neg c40, ix_n (show q < 2 ^ 31 by omega)]; done) | (rw [if_pos c40]; first | rfl | (rw [if_neg q0, if_neg q1, if_neg q2, if_neg q3, if_neg q8]; done) | (exact absurd c40 (by decide))))), rfl⟩) dX7_face_148
      · obtain ⟨q, hq0, hq1, rfl⟩ := inI_nat (a := 4) (b := 7) (binI_1.mp c40) (by omega) (by omega)
        refine lv_aload_n hx hb dX7_face_43 rfl (lv_at hl 1 rfl) ?_
        refine M_get hx hb hts hiX7 hown hK hρ hH 14 (by decide) hf47 (v := .ref (ad 14)) rfl dX7_face_44 ?_
        refine lv_iconst (v := 4) hx hb dX7_face_47 (by decide) ?_
        refine lv_iload hx hb dX7_face_48 (lv_at hl 0 rfl) ?_
        refine N_imul hx hb 4 ((3 * t1) + i1) rfl rfl dX7_face_50 ?_
        refine lv_iload_n hx hb dX7_face_51 rfl (lv_at hl 4 rfl) ?_
        refine N_iadd hx hb (4 * ((3 * t1) + i1)) q rfl rfl dX7_face_52 ?_
        refine lv_iconst (v := 4) hx hb dX7_face_53 (by decide) ?_
        refine N_isub hx hb ((4 * ((3 * t1) + i1)) + q) 4 rfl rfl (by omega) dX7_face_54 ?_
        refine M_iald hx hb hK hρ hH 14 720 (by decide) (((4 * ((3 * t1) + i1)) + q) - 4) rfl (by omega) dX7_face_55 ?_
        exact x_iret (v := F 14 (((4 * ((3 * t1) + i1)) + q) - 4)) (I, F) hx hb hr hlocks hK hH (⟨by simp only [sFace]; first | (rw [if_pos c5]; done) | (rw [if_neg c5, ix_n (show t1 < 2 ^ 31 by omega)]; first | (rw [if_pos c21]; done) | (rw [if_neg c21, ix_n (show i1 < 2 ^ 31 by omega)]; first | (rw [if_neg c40, ix_n (show q < 2 ^ 31 by omega)]; done) | (rw [if_pos c40]; first | rfl | (rw [if_neg q0, if_neg q1, if_neg q2, if_neg q3, if_neg q8]; done) | (exact absurd c40 (by decide))))), rfl⟩) dX7_face_56
    · refine lv_iconst (v := (-1)) hx hb dX7_face_24 (by decide) ?_
      exact x_iret (v := (-1)) (I, F) hx hb hr hlocks hK hH (⟨by simp only [sFace]; first | (rw [if_pos c5]; done) | (rw [if_neg c5, ix_n (show t1 < 2 ^ 31 by omega)]; first | (rw [if_pos c21]; done) | (rw [if_neg c21, ix_n (show i1 < 2 ^ 31 by omega)]; first | (rw [if_neg c40, ix_n (show q < 2 ^ 31 by omega)]; done) | (rw [if_pos c40]; first | rfl | (rw [if_neg q0, if_neg q1, if_neg q2, if_neg q3, if_neg q8]; done) | (exact absurd c40 (by decide))))), rfl⟩) dX7_face_25
