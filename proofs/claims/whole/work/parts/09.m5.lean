
def sCut (I : Nat → Int32) (F : Nat → Nat → Int32) (t fc : Int32) : Int32 × MS :=
  if binI t 0 (I 3 - 1) = 0 then (-1, I, F) else if F 8 (ix t) = 0 then
    (if sRests I F t = 0 then
      (if binI fc 0 (F 9 (ix t)) = 0 then (-1, I, F) else
        (if fc < (if binI (F 7 (ix t)) 20 400 = 0 then -1 else bearI (F 7 (ix t))) then
          (if F 9 (ix t) ≤ fc then
            (F 11 (3 * ix t + ix fc) + 1, I, setA (setA (setA (setA (setA F 9 (ix t) (F 9 (ix t) + 1)) 13 (3 * ix t + ix fc) (I 0 / 365)) 11 (3 * ix t + ix fc) (F 11 (3 * ix t + ix fc) + 1)) 12 (3 * ix t + ix fc) (I 0)) 10 (ix t) (F 10 (ix t) ||| (1 <<< (I 0 / 365 &&& 31))))
          else if I 0 - F 12 (3 * ix t + ix fc) < 5 then (-1, I, F) else if F 11 (3 * ix t + ix fc) = 40 then (-1, I, F) else
            (F 11 (3 * ix t + ix fc) + 1, I, setA (setA (setA F 11 (3 * ix t + ix fc) (F 11 (3 * ix t + ix fc) + 1)) 12 (3 * ix t + ix fc) (I 0)) 10 (ix t) (F 10 (ix t) ||| (1 <<< (I 0 / 365 &&& 31)))))
        else (-1, I, F)))
    else (-1, I, F))
  else (-1, I, F)
theorem upd_s (f : Nat → Int32) (j : Nat) (x : Int32) : upd f j x j = x := pk_us
def zeroC (F : Nat → Nat → Int32) (a k : Nat) : Nat → Nat → Int32 := fun q j => if q = 14 ∧ a ≤ j ∧ j < k then 0 else F q j
theorem zeroC_0 (F : Nat → Nat → Int32) (a : Nat) : zeroC F a a = F := by
  funext q j
  unfold zeroC
  rw [if_neg (by omega)]
theorem zeroC_at (F : Nat → Nat → Int32) (a k : Nat) : zeroC F a k 14 k = F 14 k := by
  unfold zeroC
  rw [if_neg (by omega)]
theorem zeroC_s (F : Nat → Nat → Int32) {a k : Nat} (h : a ≤ k) : setA (zeroC F a k) 14 k 0 = zeroC F a (k + 1) := by
  funext q j
  rw [setA_e]
  unfold zeroC
  by_cases h1 : q = 14
  · subst h1
    by_cases hj : j = k
    · subst hj
      rw [if_pos ⟨rfl, rfl⟩, if_pos (by omega)]
    · rw [if_neg (by omega)]
      simp [show (a ≤ j ∧ j < k + 1) ↔ (a ≤ j ∧ j < k) by omega]
  · simp [h1]
/-- a tree burns -/
def bT (I : Nat → Int32) (F : Nat → Nat → Int32) (t : Nat) : MS := (va_up I 29 (I 29 + l_sum (fun q => F 14 (12 * t + q)) 12), zeroC (setA F 8 t 1) (12 * t) (12 * t + 12))
def burnS (I : Nat → Int32) (F : Nat → Nat → Int32) (w : Int32) : Nat → Int32 × MS
  | 0 => (0, I, F)
  | t + 1 => if (burnS I F w t).2.2 4 t = w then (if (burnS I F w t).2.2 8 t = 0 then ((burnS I F w t).1 + 1, bT (burnS I F w t).2.1 (burnS I F w t).2.2 t) else burnS I F w t) else burnS I F w t
def sBurn (I : Nat → Int32) (F : Nat → Nat → Int32) (nT : Nat) (w : Int32) : Int32 × MS := if binI w 0 5 = 0 then (-1, I, F) else ((burnS I F w nT).1, (burnS I F w nT).2.1, setA (burnS I F w nT).2.2 22 (ix w) 0)

set_option maxHeartbeats 4000000 in
set_option maxRecDepth 100000 in
theorem c_X7_cut (l : Launch) (G : XG) (A : Nat → Prop) (ρ : Nat → Option Nat) (ad : Nat → Nat) (b : XW) (I : Nat → Int32) (F : Nat → Nat → Int32) (hρ : mA ρ ad) (nT : Nat) (hn : I 3 = nI nT) (hT : nT ≤ 60) (now : Nat) (hw : I 0 = nI now) (hN : now ≤ 3650) (op : Nat → Nat) (hop : ∀ t, t < nT → F 9 t = nI (op t) ∧ op t ≤ 3) (hbr : ∀ t, t < nT → ∀ i, i ≤ op t → nI i < (if binI (F 7 t) 20 400 = 0 then -1 else bearI (F 7 t)) → i < 3) (t fc : Int32) : Met l yX7_cut wsX7_cut ({ frames := 3, cells := 0, slots := 0, locals := 67 }) (va_Pc [.ref (ad 0), .int t, .int fc] (xP G A (mw G ρ ad b I F))) (va_Qi (fun (r : Int32) (u : (Nat → Int32) × (Nat → Nat → Int32)) => (r, u) = sCut I F t fc) (fun u t => xB G A (mw G ρ ad b u.1 u.2) t) A) 0 0 A := by
  refine Met.ofW (cc := cX7_cut) (maxL := 4) (ret := (some .int)) (by decide) rfl ?_
  intro p e s m args below meth c s₁ B hml hv
  obtain ⟨rfl, hK, hH, hTt⟩ := hv
  have hx := B.exec
  have hb := B.bytes
  have hr := B.returns
  have hts := atoms_spec (ws := wsX7_cut) B.pre
  have hown : s.vm.findClass RX7 = some m.cls := findClass_of_methodNamed B.named
  have hlocks := B.notSynchronized
  have hiX7 : ∀ w ∈ wsX70, w ∈ wsX7_cut := by decide +kernel
  have hf25 := hts (.fieldLink RX7 25 "ResinWoodsModel" "girth" "[I") (by decide +kernel)
  have hf28 := hts (.fieldLink RX7 28 "ResinWoodsModel" "isBurnt" "[Z") (by decide +kernel)
  have hf32 := hts (.fieldLink RX7 32 "ResinWoodsModel" "opened" "[I") (by decide +kernel)
  have hf35 := hts (.fieldLink RX7 35 "ResinWoodsModel" "years" "[I") (by decide +kernel)
  have hf38 := hts (.fieldLink RX7 38 "ResinWoodsModel" "streaks" "[I") (by decide +kernel)
  have hf41 := hts (.fieldLink RX7 41 "ResinWoodsModel" "latest" "[I") (by decide +kernel)
  have hf44 := hts (.fieldLink RX7 44 "ResinWoodsModel" "openYear" "[I") (by decide +kernel)
  have hf100 := hts (.fieldLink RX7 100 "ResinWoodsModel" "now" "I") (by decide +kernel)
  have hl := lv_entry ([.ref (ad 0), .int t, .int fc]) (n := 4) (Nat.le_of_ble_eq_true rfl)
  rw [lg_entry_eq]
  generalize (lg_sl ([.ref (ad 0), .int t, .int fc]) ++ List.replicate (4 - (lg_sl ([.ref (ad 0), .int t, .int fc])).length) Slot.unset).toArray = ls at hl ⊢
  have hl : lv_has ls 4 [(0, .ref (ad 0)), (1, .int t), (2, .int fc)] := hl
  refine lv_aload_n hx hb dX7_cut_0 rfl (lv_at hl 0 rfl) ?_
  refine lv_iload_n hx hb dX7_cut_1 rfl (lv_at hl 1 rfl) ?_
  refine x_calli (va_runV (As := [.int t]) (rest := []) ⟨hx, hb, hml, hown, hts⟩ (c_X7_isTree l G A ρ ad b I F hρ t) (cwV 1 hts gX7_cut_X7_isTree rfl rfl rfl (by decide +kernel) ⟨Nat.le_of_ble_eq_true rfl, Nat.le_of_ble_eq_true rfl⟩) (x_preV hK hH hTt (mw_ob hρ) rfl [.int t]) rfl rfl hl.1 rfl (lv_room (Nat.le_of_ble_eq_true rfl)) dX7_cut_2 ⟨Nat.le_of_ble_eq_true rfl, Nat.le_of_ble_eq_true rfl⟩) hH (fun r2 u H locs hp hH => ?_)
  obtain ⟨rfl, rfl⟩ := hp
  have hH : xH G A s.heap H locs (mw G ρ ad b I F) := hH
  refine lv_if_eq (tgt := 53) hx hb dX7_cut_5 (by decide) (fun c5 => ?_) (fun c5 => ?_)
  · refine lv_iconst (v := (-1)) hx hb dX7_cut_53 (by decide) ?_
    exact x_iret (v := (-1)) (I, F) hx hb hr hlocks hK hH (by simp only [sCut]; first | (rw [if_pos c5]; done) | (rw [if_neg c5, ix_n (show t1 < 2 ^ 31 by omega)]; first | (rw [if_neg c14]; done) | (rw [if_pos c14]; first | (rw [if_neg c22]; done) | (rw [if_pos c22, hop2]; first | (rw [if_pos c36]; done) | (rw [if_neg c36, ix_n (show i < 2 ^ 31 by omega)]; first | (rw [if_neg c50]; done) | (rw [if_pos c50, if_neg (show ¬ nI (op t1) ≤ nI i from fun z => absurd ((nI_leI (by omega) (by omega)).mp z) (by omega)), hw]; first | (rw [if_pos c83]; done) | (rw [if_neg c83, if_pos c94]; done))))))) dX7_cut_54
  · obtain ⟨t1, ht1, rfl⟩ := inI_pred (n := nT) (by rw [← hn]; exact binI_1.mp c5) (by omega)
    obtain ⟨hop2, hop1⟩ := hop t1 ht1
    refine lv_aload_n hx hb dX7_cut_8 rfl (lv_at hl 0 rfl) ?_
    refine M_get hx hb hts hiX7 hown hK hρ hH 8 (by decide) hf28 (v := .ref (ad 8)) rfl dX7_cut_9 ?_
    refine lv_iload_n hx hb dX7_cut_12 rfl (lv_at hl 1 rfl) ?_
    refine M_zald hx hb hK hρ hH 8 60 (by decide) t1 rfl (by omega) dX7_cut_13 ?_
    refine lv_if_ne (tgt := 53) hx hb dX7_cut_14 (by decide) (fun c14 => ?_) (fun c14 => ?_)
    · refine lv_iconst (v := (-1)) hx hb dX7_cut_53 (by decide) ?_
      exact x_iret (v := (-1)) (I, F) hx hb hr hlocks hK hH (by simp only [sCut]; first | (rw [if_pos c5]; done) | (rw [if_neg c5, ix_n (show t1 < 2 ^ 31 by omega)]; first | (rw [if_neg c14]; done) | (rw [if_pos c14]; first | (rw [if_neg c22]; done) | (rw [if_pos c22, hop2]; first | (rw [if_pos c36]; done) | (rw [if_neg c36, ix_n (show i < 2 ^ 31 by omega)]; first | (rw [if_neg c50]; done) | (rw [if_pos c50, if_neg (show ¬ nI (op t1) ≤ nI i from fun z => absurd ((nI_leI (by omega) (by omega)).mp z) (by omega)), hw]; first | (rw [if_pos c83]; done) | (rw [if_neg c83, if_pos c94]; done))))))) dX7_cut_54
    · refine lv_aload_n hx hb dX7_cut_17 rfl (lv_at hl 0 rfl) ?_
      refine lv_iload_n hx hb dX7_cut_18 rfl (lv_at hl 1 rfl) ?_
      refine x_calli (va_runV (As := [.int (nI t1)]) (rest := []) ⟨hx, hb, hml, hown, hts⟩ (c_X7_rests l G A ρ ad b I F hρ nT hn hT now hw hN (nI t1)) (cwV 1 hts gX7_cut_X7_rests rfl rfl rfl (by decide +kernel) ⟨Nat.le_of_ble_eq_true rfl, Nat.le_of_ble_eq_true rfl⟩) (x_preV hK hH hTt (mw_ob hρ) rfl [.int (nI t1)]) rfl rfl hl.1 rfl (lv_room (Nat.le_of_ble_eq_true rfl)) dX7_cut_19 ⟨Nat.le_of_ble_eq_true rfl, Nat.le_of_ble_eq_true rfl⟩) hH (fun r19 u H locs hp hH => ?_)
      obtain ⟨rfl, rfl⟩ := hp
      have hH : xH G A s.heap H locs (mw G ρ ad b I F) := hH
      refine lv_if_ne (tgt := 53) hx hb dX7_cut_22 (by decide) (fun c22 => ?_) (fun c22 => ?_)
      · refine lv_iconst (v := (-1)) hx hb dX7_cut_53 (by decide) ?_
        exact x_iret (v := (-1)) (I, F) hx hb hr hlocks hK hH (by simp only [sCut]; first | (rw [if_pos c5]; done) | (rw [if_neg c5, ix_n (show t1 < 2 ^ 31 by omega)]; first | (rw [if_neg c14]; done) | (rw [if_pos c14]; first | (rw [if_neg c22]; done) | (rw [if_pos c22, hop2]; first | (rw [if_pos c36]; done) | (rw [if_neg c36, ix_n (show i < 2 ^ 31 by omega)]; first | (rw [if_neg c50]; done) | (rw [if_pos c50, if_neg (show ¬ nI (op t1) ≤ nI i from fun z => absurd ((nI_leI (by omega) (by omega)).mp z) (by omega)), hw]; first | (rw [if_pos c83]; done) | (rw [if_neg c83, if_pos c94]; done))))))) dX7_cut_54
      · refine lv_iload_n hx hb dX7_cut_25 rfl (lv_at hl 2 rfl) ?_
        refine lv_iconst (v := 0) hx hb dX7_cut_26 (by decide) ?_
        refine lv_aload_n hx hb dX7_cut_27 rfl (lv_at hl 0 rfl) ?_
        refine M_get hx hb hts hiX7 hown hK hρ hH 9 (by decide) hf32 (v := .ref (ad 9)) rfl dX7_cut_28 ?_
        refine lv_iload_n hx hb dX7_cut_31 rfl (lv_at hl 1 rfl) ?_
        refine M_iald hx hb hK hρ hH 9 60 (by decide) t1 rfl (by omega) dX7_cut_32 ?_
        refine lv_topi (fun w32 ew32 => ?_)
        rw [hop2] at ew32
        subst ew32
        refine x_calli (va_runS (As := [.int fc, .int 0, .int (nI (op t1))]) (rest := []) ⟨hx, hb, hml, hown, hts⟩ (c_X7_in l G A (mw G ρ ad b I F) fc 0 (nI (op t1))) (va_cwS 3 hts gX7_cut_X7_in rfl rfl rfl (by decide +kernel) ⟨Nat.le_of_ble_eq_true rfl, Nat.le_of_ble_eq_true rfl⟩) (x_preS hK hH hTt [.int fc, .int 0, .int (nI (op t1))]) rfl rfl hl.1 rfl (lv_room (Nat.le_of_ble_eq_true rfl)) dX7_cut_33 ⟨Nat.le_of_ble_eq_true rfl, Nat.le_of_ble_eq_true rfl⟩) hH (fun r33 u H locs hp hH => ?_)
        subst hp
        have hH : xH G A s.heap H locs (mw G ρ ad b I F) := hH
        refine lv_if_eq (tgt := 53) hx hb dX7_cut_36 (by decide) (fun c36 => ?_) (fun c36 => ?_)
        · refine lv_iconst (v := (-1)) hx hb dX7_cut_53 (by decide) ?_
          exact x_iret (v := (-1)) (I, F) hx hb hr hlocks hK hH (by simp only [sCut]; first | (rw [if_pos c5]; done) | (rw [if_neg c5, ix_n (show t1 < 2 ^ 31 by omega)]; first | (rw [if_neg c14]; done) | (rw [if_pos c14]; first | (rw [if_neg c22]; done) | (rw [if_pos c22, hop2]; first | (rw [if_pos c36]; done) | (rw [if_neg c36, ix_n (show i < 2 ^ 31 by omega)]; first | (rw [if_neg c50]; done) | (rw [if_pos c50, if_neg (show ¬ nI (op t1) ≤ nI i from fun z => absurd ((nI_leI (by omega) (by omega)).mp z) (by omega)), hw]; first | (rw [if_pos c83]; done) | (rw [if_neg c83, if_pos c94]; done))))))) dX7_cut_54
        · obtain ⟨i, hi0, hi1, rfl⟩ := inI_nat (a := 0) (b := op t1) (binI_1.mp c36) (by omega) (by omega)
          refine lv_iload_n hx hb dX7_cut_39 rfl (lv_at hl 2 rfl) ?_
          refine lv_aload_n hx hb dX7_cut_40 rfl (lv_at hl 0 rfl) ?_
          refine lv_aload_n hx hb dX7_cut_41 rfl (lv_at hl 0 rfl) ?_
          refine M_get hx hb hts hiX7 hown hK hρ hH 7 (by decide) hf25 (v := .ref (ad 7)) rfl dX7_cut_42 ?_
          refine lv_iload_n hx hb dX7_cut_45 rfl (lv_at hl 1 rfl) ?_
          refine M_iald hx hb hK hρ hH 7 60 (by decide) t1 rfl (by omega) dX7_cut_46 ?_
          refine x_calli (va_runV (As := [.int (F 7 t1)]) (rest := [.int (nI i)]) ⟨hx, hb, hml, hown, hts⟩ (c_X7_bears l G A ρ ad b I F hρ (F 7 t1)) (cwV 1 hts gX7_cut_X7_bears rfl rfl rfl (by decide +kernel) ⟨Nat.le_of_ble_eq_true rfl, Nat.le_of_ble_eq_true rfl⟩) (x_preV hK hH hTt (mw_ob hρ) rfl [.int (F 7 t1)]) rfl rfl hl.1 rfl (lv_room (Nat.le_of_ble_eq_true rfl)) dX7_cut_47 ⟨Nat.le_of_ble_eq_true rfl, Nat.le_of_ble_eq_true rfl⟩) hH (fun r47 u H locs hp hH => ?_)
          obtain ⟨rfl, rfl⟩ := hp
          have hH : xH G A s.heap H locs (mw G ρ ad b I F) := hH
          refine lv_icmp_lt (tgt := 55) hx hb dX7_cut_50 (by decide) (fun c50 => ?_) (fun c50 => ?_)
          · have hi3 : i < 3 := hbr t1 ht1 i hi1 c50
            refine lv_iconst (v := 3) hx hb dX7_cut_55 (by decide) ?_
            refine lv_iload_n hx hb dX7_cut_56 rfl (lv_at hl 1 rfl) ?_
            refine N_imul hx hb 3 t1 rfl rfl dX7_cut_57 ?_
            refine lv_iload_n hx hb dX7_cut_58 rfl (lv_at hl 2 rfl) ?_
            refine N_iadd hx hb (3 * t1) i rfl rfl dX7_cut_59 ?_
            refine lv_istore_n (lv' := [(3, .int (nI ((3 * t1) + i))), (0, .ref (ad 0)), (1, .int (nI t1)), (2, .int (nI i))]) hx hb dX7_cut_60 rfl hl (by decide) rfl (fun ls hl => ?_)
            refine lv_iload_n hx hb dX7_cut_61 rfl (lv_at hl 3 rfl) ?_
            refine lv_aload_n hx hb dX7_cut_62 rfl (lv_at hl 1 rfl) ?_
            refine M_get hx hb hts hiX7 hown hK hρ hH 9 (by decide) hf32 (v := .ref (ad 9)) rfl dX7_cut_63 ?_
            refine lv_iload_n hx hb dX7_cut_66 rfl (lv_at hl 2 rfl) ?_
            refine M_iald hx hb hK hρ hH 9 60 (by decide) t1 rfl (by omega) dX7_cut_67 ?_
            refine lv_topi (fun w67 ew67 => ?_)
            rw [hop2] at ew67
            subst ew67
            refine lv_icmp_ge (tgt := 99) hx hb dX7_cut_68 (by decide) (fun c68 => ?_) (fun c68 => ?_)
            · have c68 : (op t1) ≤ i := (nI_leI (a := (op t1)) (b := i) (by omega) (by omega)).mp c68
              refine lv_iload_n hx hb dX7_cut_99 rfl (lv_at hl 3 rfl) ?_
              refine lv_aload_n hx hb dX7_cut_100 rfl (lv_at hl 1 rfl) ?_
              refine M_get hx hb hts hiX7 hown hK hρ hH 9 (by decide) hf32 (v := .ref (ad 9)) rfl dX7_cut_101 ?_
              refine lv_iload_n hx hb dX7_cut_104 rfl (lv_at hl 2 rfl) ?_
              refine M_iald hx hb hK hρ hH 9 60 (by decide) t1 rfl (by omega) dX7_cut_105 ?_
              refine lv_topi (fun w105 ew105 => ?_)
              rw [hop2] at ew105
              subst ew105
              refine lv_icmp_ne (tgt := 133) hx hb dX7_cut_106 (by decide) (fun c106 => ?_) (fun c106 => ?_)
              · have c106 : ¬ i = (op t1) := fun zz => c106 ((nI_eq (a := i) (b := (op t1)) (by omega) (by omega)).mpr zz)
                exact absurd (show i = op t1 by omega) c106
              · have c106 : i = (op t1) := (nI_eq (a := i) (b := (op t1)) (by omega) (by omega)).mp c106
                refine lv_aload_n hx hb dX7_cut_109 rfl (lv_at hl 1 rfl) ?_
                refine M_get hx hb hts hiX7 hown hK hρ hH 9 (by decide) hf32 (v := .ref (ad 9)) rfl dX7_cut_110 ?_
                refine lv_iload_n hx hb dX7_cut_113 rfl (lv_at hl 2 rfl) ?_
                refine lv_dup2_11 hx hb dX7_cut_114 rfl rfl ?_
                refine M_iald hx hb hK hρ hH 9 60 (by decide) t1 rfl (by omega) dX7_cut_115 ?_
                refine lv_topi (fun w115 ew115 => ?_)
                rw [hop2] at ew115
                subst ew115
                refine lv_iconst (v := 1) hx hb dX7_cut_116 (by decide) ?_
                refine N_iadd hx hb (op t1) 1 rfl rfl dX7_cut_117 ?_
                refine M_iast hx hb hK hρ hH 9 60 (by decide) t1 rfl (by omega) dX7_cut_118 (fun H locs hH => ?_)
                obtain ⟨F118, eF118⟩ : ∃ z, z = setA F 9 t1 (nI ((op t1) + 1)) := ⟨_, rfl⟩
                rw [← eF118] at hH
                refine lv_aload_n hx hb dX7_cut_119 rfl (lv_at hl 1 rfl) ?_
                refine M_get hx hb hts hiX7 hown hK hρ hH 13 (by decide) hf44 (v := .ref (ad 13)) rfl dX7_cut_120 ?_
                refine lv_iload_n hx hb dX7_cut_123 rfl (lv_at hl 0 rfl) ?_
                refine lv_aload_n hx hb dX7_cut_124 rfl (lv_at hl 1 rfl) ?_
                refine M_get hx hb hts hiX7 hown hK hρ hH 0 (by decide) hf100 (v := .int (nI now)) (congrArg (fun z => some (Value.int z)) hw) dX7_cut_125 ?_
                refine lv_sipush (v := 365) hx hb dX7_cut_128 (by decide) ?_
                refine N_idiv hx hb now 365 rfl rfl (by omega) (by decide) (by decide) dX7_cut_131 ?_
                refine M_iast hx hb hK hρ hH 13 180 (by decide) ((3 * t1) + i) rfl (by omega) dX7_cut_132 (fun H locs hH => ?_)
                obtain ⟨F132, eF132⟩ : ∃ z, z = setA F118 13 ((3 * t1) + i) (nI (now / 365)) := ⟨_, rfl⟩
                rw [← eF132] at hH
                refine lv_aload_n hx hb dX7_cut_133 rfl (lv_at hl 1 rfl) ?_
                refine M_get hx hb hts hiX7 hown hK hρ hH 11 (by decide) hf38 (v := .ref (ad 11)) rfl dX7_cut_134 ?_
                refine lv_iload_n hx hb dX7_cut_137 rfl (lv_at hl 0 rfl) ?_
                refine lv_dup2_11 hx hb dX7_cut_138 rfl rfl ?_
                refine M_iald hx hb hK hρ hH 11 180 (by decide) ((3 * t1) + i) rfl (by omega) dX7_cut_139 ?_
                refine lv_iconst (v := 1) hx hb dX7_cut_140 (by decide) ?_
                refine lv_iadd hx hb dX7_cut_141 ?_
                refine M_iast hx hb hK hρ hH 11 180 (by decide) ((3 * t1) + i) rfl (by omega) dX7_cut_142 (fun H locs hH => ?_)
                obtain ⟨F142, eF142⟩ : ∃ z, z = setA F132 11 ((3 * t1) + i) ((F132 11 ((3 * t1) + i)) + 1) := ⟨_, rfl⟩
                rw [← eF142] at hH
                refine lv_aload_n hx hb dX7_cut_143 rfl (lv_at hl 1 rfl) ?_
                refine M_get hx hb hts hiX7 hown hK hρ hH 12 (by decide) hf41 (v := .ref (ad 12)) rfl dX7_cut_144 ?_
                refine lv_iload_n hx hb dX7_cut_147 rfl (lv_at hl 0 rfl) ?_
                refine lv_aload_n hx hb dX7_cut_148 rfl (lv_at hl 1 rfl) ?_
                refine M_get hx hb hts hiX7 hown hK hρ hH 0 (by decide) hf100 (v := .int (nI now)) (congrArg (fun z => some (Value.int z)) hw) dX7_cut_149 ?_
                refine M_iast hx hb hK hρ hH 12 180 (by decide) ((3 * t1) + i) rfl (by omega) dX7_cut_152 (fun H locs hH => ?_)
                obtain ⟨F152, eF152⟩ : ∃ z, z = setA F142 12 ((3 * t1) + i) (nI now) := ⟨_, rfl⟩
                rw [← eF152] at hH
                refine lv_aload_n hx hb dX7_cut_153 rfl (lv_at hl 1 rfl) ?_
                refine M_get hx hb hts hiX7 hown hK hρ hH 10 (by decide) hf35 (v := .ref (ad 10)) rfl dX7_cut_154 ?_
                refine lv_iload_n hx hb dX7_cut_157 rfl (lv_at hl 2 rfl) ?_
                refine lv_dup2_11 hx hb dX7_cut_158 rfl rfl ?_
                refine M_iald hx hb hK hρ hH 10 60 (by decide) t1 rfl (by omega) dX7_cut_159 ?_
                refine lv_iconst (v := 1) hx hb dX7_cut_160 (by decide) ?_
                refine lv_aload_n hx hb dX7_cut_161 rfl (lv_at hl 1 rfl) ?_
                refine M_get hx hb hts hiX7 hown hK hρ hH 0 (by decide) hf100 (v := .int (nI now)) (congrArg (fun z => some (Value.int z)) hw) dX7_cut_162 ?_
                refine lv_sipush (v := 365) hx hb dX7_cut_165 (by decide) ?_
                refine N_idiv hx hb now 365 rfl rfl (by omega) (by decide) (by decide) dX7_cut_168 ?_
                refine lv_ishl hx hb dX7_cut_169 ?_
                refine lv_ior hx hb dX7_cut_170 ?_
                refine M_iast hx hb hK hρ hH 10 60 (by decide) t1 rfl (by omega) dX7_cut_171 (fun H locs hH => ?_)
                obtain ⟨F171, eF171⟩ : ∃ z, z = setA F152 10 t1 ((F152 10 t1) ||| (1 <<< ((nI (now / 365)) &&& 31))) := ⟨_, rfl⟩
                rw [← eF171] at hH
                refine lv_aload_n hx hb dX7_cut_172 rfl (lv_at hl 1 rfl) ?_
                refine M_get hx hb hts hiX7 hown hK hρ hH 11 (by decide) hf38 (v := .ref (ad 11)) rfl dX7_cut_173 ?_
                refine lv_iload_n hx hb dX7_cut_176 rfl (lv_at hl 0 rfl) ?_
                refine M_iald hx hb hK hρ hH 11 180 (by decide) ((3 * t1) + i) rfl (by omega) dX7_cut_177 ?_
                exact x_iret (v := F171 11 ((3 * t1) + i)) (I, F171) hx hb hr hlocks hK hH (by subst eF171; subst eF152; subst eF142; subst eF132; subst eF118; simp only [sCut]; rw [if_neg c5, ix_n (show t1 < 2 ^ 31 by omega), if_pos c14, if_pos c22, hop2, if_neg c36, ix_n (show i < 2 ^ 31 by omega), if_pos c50, if_pos (show nI (op t1) ≤ nI i from (nI_leI (by omega) (by omega)).mpr (by omega)), hw]; rw [show (nI now / 365 : Int32) = nI (now / 365) from pk_div (by omega) (by decide) (by decide)]; simp [setA_n, setA_k, upd_s, nI_1, nI_add]) dX7_cut_178
            · have c68 : ¬ (op t1) ≤ i := fun zz => c68 ((nI_leI (a := (op t1)) (b := i) (by omega) (by omega)).mpr zz)
              refine lv_aload_n hx hb dX7_cut_71 rfl (lv_at hl 1 rfl) ?_
              refine M_get hx hb hts hiX7 hown hK hρ hH 0 (by decide) hf100 (v := .int (nI now)) (congrArg (fun z => some (Value.int z)) hw) dX7_cut_72 ?_
              refine lv_aload_n hx hb dX7_cut_75 rfl (lv_at hl 1 rfl) ?_
              refine M_get hx hb hts hiX7 hown hK hρ hH 12 (by decide) hf41 (v := .ref (ad 12)) rfl dX7_cut_76 ?_
              refine lv_iload_n hx hb dX7_cut_79 rfl (lv_at hl 0 rfl) ?_
              refine M_iald hx hb hK hρ hH 12 180 (by decide) ((3 * t1) + i) rfl (by omega) dX7_cut_80 ?_
              refine lv_isub hx hb dX7_cut_81 ?_
              refine lv_iconst (v := 5) hx hb dX7_cut_82 (by decide) ?_
              refine lv_icmp_lt (tgt := 97) hx hb dX7_cut_83 (by decide) (fun c83 => ?_) (fun c83 => ?_)
              · refine lv_iconst (v := (-1)) hx hb dX7_cut_97 (by decide) ?_
                exact x_iret (v := (-1)) (I, F) hx hb hr hlocks hK hH (by simp only [sCut]; first | (rw [if_pos c5]; done) | (rw [if_neg c5, ix_n (show t1 < 2 ^ 31 by omega)]; first | (rw [if_neg c14]; done) | (rw [if_pos c14]; first | (rw [if_neg c22]; done) | (rw [if_pos c22, hop2]; first | (rw [if_pos c36]; done) | (rw [if_neg c36, ix_n (show i < 2 ^ 31 by omega)]; first | (rw [if_neg c50]; done) | (rw [if_pos c50, if_neg (show ¬ nI (op t1) ≤ nI i from fun z => absurd ((nI_leI (by omega) (by omega)).mp z) (by omega)), hw]; first | (rw [if_pos c83]; done) | (rw [if_neg c83, if_pos c94]; done))))))) dX7_cut_98
              · refine lv_aload_n hx hb dX7_cut_86 rfl (lv_at hl 1 rfl) ?_
                refine M_get hx hb hts hiX7 hown hK hρ hH 11 (by decide) hf38 (v := .ref (ad 11)) rfl dX7_cut_87 ?_
                refine lv_iload_n hx hb dX7_cut_90 rfl (lv_at hl 0 rfl) ?_
                refine M_iald hx hb hK hρ hH 11 180 (by decide) ((3 * t1) + i) rfl (by omega) dX7_cut_91 ?_
                refine lv_bipush (v := 40) hx hb dX7_cut_92 (by decide) ?_
                refine lv_icmp_ne (tgt := 99) hx hb dX7_cut_94 (by decide) (fun c94 => ?_) (fun c94 => ?_)
                · refine lv_iload_n hx hb dX7_cut_99 rfl (lv_at hl 3 rfl) ?_
                  refine lv_aload_n hx hb dX7_cut_100 rfl (lv_at hl 1 rfl) ?_
                  refine M_get hx hb hts hiX7 hown hK hρ hH 9 (by decide) hf32 (v := .ref (ad 9)) rfl dX7_cut_101 ?_
                  refine lv_iload_n hx hb dX7_cut_104 rfl (lv_at hl 2 rfl) ?_
                  refine M_iald hx hb hK hρ hH 9 60 (by decide) t1 rfl (by omega) dX7_cut_105 ?_
                  refine lv_topi (fun w105 ew105 => ?_)
                  rw [hop2] at ew105
                  subst ew105
                  refine lv_icmp_ne (tgt := 133) hx hb dX7_cut_106 (by decide) (fun c106 => ?_) (fun c106 => ?_)
                  · have c106 : ¬ i = (op t1) := fun zz => c106 ((nI_eq (a := i) (b := (op t1)) (by omega) (by omega)).mpr zz)
                    refine lv_aload_n hx hb dX7_cut_133 rfl (lv_at hl 1 rfl) ?_
                    refine M_get hx hb hts hiX7 hown hK hρ hH 11 (by decide) hf38 (v := .ref (ad 11)) rfl dX7_cut_134 ?_
                    refine lv_iload_n hx hb dX7_cut_137 rfl (lv_at hl 0 rfl) ?_
                    refine lv_dup2_11 hx hb dX7_cut_138 rfl rfl ?_
                    refine M_iald hx hb hK hρ hH 11 180 (by decide) ((3 * t1) + i) rfl (by omega) dX7_cut_139 ?_
                    refine lv_iconst (v := 1) hx hb dX7_cut_140 (by decide) ?_
                    refine lv_iadd hx hb dX7_cut_141 ?_
                    refine M_iast hx hb hK hρ hH 11 180 (by decide) ((3 * t1) + i) rfl (by omega) dX7_cut_142 (fun H locs hH => ?_)
                    obtain ⟨F142, eF142⟩ : ∃ z, z = setA F 11 ((3 * t1) + i) ((F 11 ((3 * t1) + i)) + 1) := ⟨_, rfl⟩
                    rw [← eF142] at hH
                    refine lv_aload_n hx hb dX7_cut_143 rfl (lv_at hl 1 rfl) ?_
                    refine M_get hx hb hts hiX7 hown hK hρ hH 12 (by decide) hf41 (v := .ref (ad 12)) rfl dX7_cut_144 ?_
                    refine lv_iload_n hx hb dX7_cut_147 rfl (lv_at hl 0 rfl) ?_
                    refine lv_aload_n hx hb dX7_cut_148 rfl (lv_at hl 1 rfl) ?_
                    refine M_get hx hb hts hiX7 hown hK hρ hH 0 (by decide) hf100 (v := .int (nI now)) (congrArg (fun z => some (Value.int z)) hw) dX7_cut_149 ?_
                    refine M_iast hx hb hK hρ hH 12 180 (by decide) ((3 * t1) + i) rfl (by omega) dX7_cut_152 (fun H locs hH => ?_)
                    obtain ⟨F152, eF152⟩ : ∃ z, z = setA F142 12 ((3 * t1) + i) (nI now) := ⟨_, rfl⟩
                    rw [← eF152] at hH
                    refine lv_aload_n hx hb dX7_cut_153 rfl (lv_at hl 1 rfl) ?_
                    refine M_get hx hb hts hiX7 hown hK hρ hH 10 (by decide) hf35 (v := .ref (ad 10)) rfl dX7_cut_154 ?_
                    refine lv_iload_n hx hb dX7_cut_157 rfl (lv_at hl 2 rfl) ?_
                    refine lv_dup2_11 hx hb dX7_cut_158 rfl rfl ?_
                    refine M_iald hx hb hK hρ hH 10 60 (by decide) t1 rfl (by omega) dX7_cut_159 ?_
                    refine lv_iconst (v := 1) hx hb dX7_cut_160 (by decide) ?_
                    refine lv_aload_n hx hb dX7_cut_161 rfl (lv_at hl 1 rfl) ?_
                    refine M_get hx hb hts hiX7 hown hK hρ hH 0 (by decide) hf100 (v := .int (nI now)) (congrArg (fun z => some (Value.int z)) hw) dX7_cut_162 ?_
                    refine lv_sipush (v := 365) hx hb dX7_cut_165 (by decide) ?_
                    refine N_idiv hx hb now 365 rfl rfl (by omega) (by decide) (by decide) dX7_cut_168 ?_
                    refine lv_ishl hx hb dX7_cut_169 ?_
                    refine lv_ior hx hb dX7_cut_170 ?_
                    refine M_iast hx hb hK hρ hH 10 60 (by decide) t1 rfl (by omega) dX7_cut_171 (fun H locs hH => ?_)
                    obtain ⟨F171, eF171⟩ : ∃ z, z = setA F152 10 t1 ((F152 10 t1) ||| (1 <<< ((nI (now / 365)) &&& 31))) := ⟨_, rfl⟩
                    rw [← eF171] at hH
                    refine lv_aload_n hx hb dX7_cut_172 rfl (lv_at hl 1 rfl) ?_
                    refine M_get hx hb hts hiX7 hown hK hρ hH 11 (by decide) hf38 (v := .ref (ad 11)) rfl dX7_cut_173 ?_
                    refine lv_iload_n hx hb dX7_cut_176 rfl (lv_at hl 0 rfl) ?_
                    refine M_iald hx hb hK hρ hH 11 180 (by decide) ((3 * t1) + i) rfl (by omega) dX7_cut_177 ?_
                    exact x_iret (v := F171 11 ((3 * t1) + i)) (I, F171) hx hb hr hlocks hK hH (by subst eF171; subst eF152; subst eF142; simp only [sCut]; rw [if_neg c5, ix_n (show t1 < 2 ^ 31 by omega), if_pos c14, if_pos c22, hop2, if_neg c36, ix_n (show i < 2 ^ 31 by omega), if_pos c50, if_neg (show ¬ nI (op t1) ≤ nI i from fun z => absurd ((nI_leI (by omega) (by omega)).mp z) (by omega)), hw, if_neg c83, if_neg c94]; rw [show (nI now / 365 : Int32) = nI (now / 365) from pk_div (by omega) (by decide) (by decide)]; simp [setA_n, setA_k, upd_s, nI_1, nI_add]) dX7_cut_178
                  · have c106 : i = (op t1) := (nI_eq (a := i) (b := (op t1)) (by omega) (by omega)).mp c106
                    exact absurd c106 (by omega)
                · refine lv_iconst (v := (-1)) hx hb dX7_cut_97 (by decide) ?_
                  exact x_iret (v := (-1)) (I, F) hx hb hr hlocks hK hH (by simp only [sCut]; first | (rw [if_pos c5]; done) | (rw [if_neg c5, ix_n (show t1 < 2 ^ 31 by omega)]; first | (rw [if_neg c14]; done) | (rw [if_pos c14]; first | (rw [if_neg c22]; done) | (rw [if_pos c22, hop2]; first | (rw [if_pos c36]; done) | (rw [if_neg c36, ix_n (show i < 2 ^ 31 by omega)]; first | (rw [if_neg c50]; done) | (rw [if_pos c50, if_neg (show ¬ nI (op t1) ≤ nI i from fun z => absurd ((nI_leI (by omega) (by omega)).mp z) (by omega)), hw]; first | (rw [if_pos c83]; done) | (rw [if_neg c83, if_pos c94]; done))))))) dX7_cut_98
          · refine lv_iconst (v := (-1)) hx hb dX7_cut_53 (by decide) ?_
            exact x_iret (v := (-1)) (I, F) hx hb hr hlocks hK hH (by simp only [sCut]; first | (rw [if_pos c5]; done) | (rw [if_neg c5, ix_n (show t1 < 2 ^ 31 by omega)]; first | (rw [if_neg c14]; done) | (rw [if_pos c14]; first | (rw [if_neg c22]; done) | (rw [if_pos c22, hop2]; first | (rw [if_pos c36]; done) | (rw [if_neg c36, ix_n (show i < 2 ^ 31 by omega)]; first | (rw [if_neg c50]; done) | (rw [if_pos c50, if_neg (show ¬ nI (op t1) ≤ nI i from fun z => absurd ((nI_leI (by omega) (by omega)).mp z) (by omega)), hw]; first | (rw [if_pos c83]; done) | (rw [if_neg c83, if_pos c94]; done))))))) dX7_cut_54

set_option maxHeartbeats 4000000 in
set_option maxRecDepth 100000 in
theorem c_X7_burn (l : Launch) (G : XG) (A : Nat → Prop) (ρ : Nat → Option Nat) (ad : Nat → Nat) (b : XW) (I : Nat → Int32) (F : Nat → Nat → Int32) (hρ : mA ρ ad) (nT : Nat) (hn : I 3 = nI nT) (hT : nT ≤ 60) (wd : Int32) : Met l yX7_burn wsX7_burn ({ frames := 2, cells := 0, slots := 0, locals := 42 }) (va_Pc [.ref (ad 0), .int wd] (xP G A (mw G ρ ad b I F))) (va_Qi (fun (r : Int32) (u : (Nat → Int32) × (Nat → Nat → Int32)) => (r, u) = sBurn I F nT wd) (fun u t => xB G A (mw G ρ ad b u.1 u.2) t) A) 0 0 A := by
  refine Met.ofW (cc := cX7_burn) (maxL := 5) (ret := (some .int)) (by decide) rfl ?_
  intro p e s m args below meth c s₁ B hml hv
  obtain ⟨rfl, hK, hH, hTt⟩ := hv
  have hx := B.exec
  have hb := B.bytes
  have hr := B.returns
  have hts := atoms_spec (ws := wsX7_burn) B.pre
  have hown : s.vm.findClass RX7 = some m.cls := findClass_of_methodNamed B.named
  have hlocks := B.notSynchronized
  have hiX7 : ∀ w ∈ wsX70, w ∈ wsX7_burn := by decide +kernel
  have hf16 := hts (.fieldLink RX7 16 "ResinWoodsModel" "wood" "[I") (by decide +kernel)
  have hf28 := hts (.fieldLink RX7 28 "ResinWoodsModel" "isBurnt" "[Z") (by decide +kernel)
  have hf47 := hts (.fieldLink RX7 47 "ResinWoodsModel" "cups" "[I") (by decide +kernel)
  have hf68 := hts (.fieldLink RX7 68 "ResinWoodsModel" "isLet" "[Z") (by decide +kernel)
  have hf92 := hts (.fieldLink RX7 92 "ResinWoodsModel" "trees" "I") (by decide +kernel)
  have hf180 := hts (.fieldLink RX7 180 "ResinWoodsModel" "burnt" "I") (by decide +kernel)
  have hl := lv_entry ([.ref (ad 0), .int wd]) (n := 5) (Nat.le_of_ble_eq_true rfl)
  rw [lg_entry_eq]
  generalize (lg_sl ([.ref (ad 0), .int wd]) ++ List.replicate (5 - (lg_sl ([.ref (ad 0), .int wd])).length) Slot.unset).toArray = ls at hl ⊢
  have hl : lv_has ls 5 [(0, .ref (ad 0)), (1, .int wd)] := hl
  refine lv_iload_n hx hb dX7_burn_0 rfl (lv_at hl 1 rfl) ?_
  refine x_calli (va_runS (As := [.int wd]) (rest := []) ⟨hx, hb, hml, hown, hts⟩ (c_X7_isWood l G A (mw G ρ ad b I F) wd) (va_cwS 1 hts gX7_burn_X7_isWood rfl rfl rfl (by decide +kernel) ⟨Nat.le_of_ble_eq_true rfl, Nat.le_of_ble_eq_true rfl⟩) (x_preS hK hH hTt [.int wd]) rfl rfl hl.1 rfl (lv_room (Nat.le_of_ble_eq_true rfl)) dX7_burn_1 ⟨Nat.le_of_ble_eq_true rfl, Nat.le_of_ble_eq_true rfl⟩) hH (fun r1 u H locs hp hH => ?_)
  subst hp
  have hH : xH G A s.heap H locs (mw G ρ ad b I F) := hH
  refine lv_if_ne (tgt := 9) hx hb dX7_burn_4 (by decide) (fun c4 => ?_) (fun c4 => ?_)
  · obtain ⟨w, hw0, hw1, rfl⟩ := inI_nat (a := 0) (b := 5) (binI_1.mp c4) (by omega) (by omega)
    refine lv_iconst (v := 0) hx hb dX7_burn_9 (by decide) ?_
    refine lv_istore_n (lv' := [(2, .int 0), (0, .ref (ad 0)), (1, .int (nI w))]) hx hb dX7_burn_10 rfl hl (by decide) rfl (fun ls hl => ?_)
    refine lv_iconst (v := 0) hx hb dX7_burn_11 (by decide) ?_
    refine lv_istore_n (lv' := [(3, .int 0), (2, .int 0), (0, .ref (ad 0)), (1, .int (nI w))]) hx hb dX7_burn_12 rfl hl (by decide) rfl (fun ls hl => ?_)
    suffices loop13 : ∀ (k13 : Nat) (t : Nat) (n : Int32) (I1 : Nat → Int32) (F1 : Nat → Nat → Int32), (nT < t + k13) → (t ≤ nT) → (I1 3 = nI nT) → ((n, I1, F1) = burnS I F (nI w) t) → ∀ (H : Heap) (locs : List Loc), xH G A s.heap H locs (mw G ρ ad b I1 F1) → ∀ (ls : Array Slot), lv_has ls 5 [(0, .ref (ad 0)), (1, .int (nI w)), (2, .int n), (3, .int (nI t))] → W p l e (headSpec wsX7_burn _).room s m _ below meth c H locs 0 0 (MQ below _ _ s 0 0 A) (F0 m 13 ls []) from
      loop13 (nT + 1) 0 0 I F (by omega) (by omega) (hn) (rfl) _ _ hH ls (lv_sub hl [2, 3, 1, 0] rfl)
    intro k13
    induction k13 with
    | zero =>
      intro t n I1 F1 hfuel ht h3 hS H locs hH ls hl
      exact absurd hfuel (by omega)
    | succ k13 ih13 =>
      intro t n I1 F1 hfuel ht h3 hS H locs hH ls hl
      refine lv_iload_n hx hb dX7_burn_13 rfl (lv_at hl 3 rfl) ?_
      refine lv_aload_n hx hb dX7_burn_14 rfl (lv_at hl 0 rfl) ?_
      refine M_get hx hb hts hiX7 hown hK hρ hH 3 (by decide) hf92 (v := .int (nI nT)) (congrArg (fun z => some (Value.int z)) (show I1 3 = nI nT by first | exact hn | exact h3)) dX7_burn_15 ?_
      refine lv_icmp_ge (tgt := 106) hx hb dX7_burn_18 (by decide) (fun c18 => ?_) (fun c18 => ?_)
      · have c18 : nT ≤ t := (nI_leI (a := nT) (b := t) (by omega) (by omega)).mp c18
        refine lv_aload_n hx hb dX7_burn_106 rfl (lv_at hl 0 rfl) ?_
        refine M_get hx hb hts hiX7 hown hK hρ hH 22 (by decide) hf68 (v := .ref (ad 22)) rfl dX7_burn_107 ?_
        refine lv_iload_n hx hb dX7_burn_110 rfl (lv_at hl 1 rfl) ?_
        refine lv_iconst (v := 0) hx hb dX7_burn_111 (by decide) ?_
        refine M_zast hx hb hK hρ hH 22 6 (by decide) w rfl (by omega) (by decide) dX7_burn_112 (fun H locs hH => ?_)
        obtain ⟨F112, eF112⟩ : ∃ z, z = setA F1 22 w 0 := ⟨_, rfl⟩
        rw [← eF112] at hH
        refine lv_iload_n hx hb dX7_burn_113 rfl (lv_at hl 2 rfl) ?_
        exact x_iret (v := n) (I1, F112) hx hb hr hlocks hK hH (by subst eF112; simp only [sBurn]; rw [if_neg c4, ix_n (show w < 2 ^ 31 by omega), show nT = t by omega, ← hS]) dX7_burn_114
      · have c18 : ¬ nT ≤ t := fun zz => c18 ((nI_leI (a := nT) (b := t) (by omega) (by omega)).mpr zz)
        refine lv_aload_n hx hb dX7_burn_21 rfl (lv_at hl 0 rfl) ?_
        refine M_get hx hb hts hiX7 hown hK hρ hH 4 (by decide) hf16 (v := .ref (ad 4)) rfl dX7_burn_22 ?_
        refine lv_iload_n hx hb dX7_burn_25 rfl (lv_at hl 3 rfl) ?_
        refine M_iald hx hb hK hρ hH 4 60 (by decide) t rfl (by omega) dX7_burn_26 ?_
        refine lv_iload_n hx hb dX7_burn_27 rfl (lv_at hl 1 rfl) ?_
        refine lv_icmp_ne (tgt := 100) hx hb dX7_burn_28 (by decide) (fun c28 => ?_) (fun c28 => ?_)
        · refine lv_iinc (v := nI (t + 1)) (lv' := [(3, .int (nI (t + 1))), (0, .ref (ad 0)), (1, .int (nI w)), (2, .int n)]) hx hb dX7_burn_100 hl (k := 3) rfl (by exact nI_add _ 1) (by decide) rfl (fun ls hl => ?_)
          refine lv_goto (tgt := 13) hx hb dX7_burn_103 (by decide) ?_
          exact ih13 (t + 1) n I1 F1 (by omega) (by omega) (by first | exact h3 | (rw [hI2]; exact h3)) (by first | (simp only [burnS]; rw [← hS]; simp only []; rw [if_neg c28]; done) | (simp only [burnS]; rw [← hS]; simp only []; rw [if_pos c28, if_neg c37]; done) | (simp only [burnS]; rw [← hS]; simp only []; rw [if_pos c28, if_pos c37, hI2, hF2, show k = 12 * t + 12 by omega, show 12 * t + 12 - 12 * t = 12 by omega]; rfl)) _ _ hH ls (lv_sub hl [1, 2, 3, 0] rfl)
        · refine lv_aload_n hx hb dX7_burn_31 rfl (lv_at hl 0 rfl) ?_
          refine M_get hx hb hts hiX7 hown hK hρ hH 8 (by decide) hf28 (v := .ref (ad 8)) rfl dX7_burn_32 ?_
          refine lv_iload_n hx hb dX7_burn_35 rfl (lv_at hl 3 rfl) ?_
          refine M_zald hx hb hK hρ hH 8 60 (by decide) t rfl (by omega) dX7_burn_36 ?_
          refine lv_if_eq (tgt := 43) hx hb dX7_burn_37 (by decide) (fun c37 => ?_) (fun c37 => ?_)
          · refine lv_aload_n hx hb dX7_burn_43 rfl (lv_at hl 0 rfl) ?_
            refine M_get hx hb hts hiX7 hown hK hρ hH 8 (by decide) hf28 (v := .ref (ad 8)) rfl dX7_burn_44 ?_
            refine lv_iload_n hx hb dX7_burn_47 rfl (lv_at hl 3 rfl) ?_
            refine lv_iconst (v := 1) hx hb dX7_burn_48 (by decide) ?_
            refine M_zast hx hb hK hρ hH 8 60 (by decide) t rfl (by omega) (by decide) dX7_burn_49 (fun H locs hH => ?_)
            obtain ⟨F49, eF49⟩ : ∃ z, z = setA F1 8 t 1 := ⟨_, rfl⟩
            rw [← eF49] at hH
            refine lv_iinc (v := n + 1) (lv' := [(2, .int (n + 1)), (0, .ref (ad 0)), (1, .int (nI w)), (3, .int (nI t))]) hx hb dX7_burn_50 hl (k := 2) rfl (rfl) (by decide) rfl (fun ls hl => ?_)
            refine lv_bipush (v := 12) hx hb dX7_burn_53 (by decide) ?_
            refine lv_iload_n hx hb dX7_burn_55 rfl (lv_at hl 3 rfl) ?_
            refine N_imul hx hb 12 t rfl rfl dX7_burn_56 ?_
            refine lv_istore (lv' := [(4, .int (nI (12 * t))), (2, .int (n + 1)), (0, .ref (ad 0)), (1, .int (nI w)), (3, .int (nI t))]) hx hb dX7_burn_57 hl (by decide) rfl (fun ls hl => ?_)
            suffices loop59 : ∀ (k59 : Nat) (k : Nat) (I2 : Nat → Int32) (F2 : Nat → Nat → Int32), (12 * t + 12 < k + k59) → (12 * t ≤ k) → (k ≤ 12 * t + 12) → (I2 = va_up I1 29 (I1 29 + l_sum (fun q => F1 14 (12 * t + q)) (k - 12 * t))) → (F2 = zeroC (setA F1 8 t 1) (12 * t) k) → ∀ (H : Heap) (locs : List Loc), xH G A s.heap H locs (mw G ρ ad b I2 F2) → ∀ (ls : Array Slot), lv_has ls 5 [(0, .ref (ad 0)), (1, .int (nI w)), (2, .int (n + 1)), (3, .int (nI t)), (4, .int (nI k))] → W p l e (headSpec wsX7_burn _).room s m _ below meth c H locs 0 0 (MQ below _ _ s 0 0 A) (F0 m 59 ls []) from
              loop59 13 (12 * t) I1 F49 (by omega) (by omega) (by omega) (by rw [Nat.sub_self]; exact (up_0 I1 29 (by simp [l_sum])).symm) (by rw [eF49, zeroC_0]) _ _ hH ls (lv_sub hl [2, 3, 1, 4, 0] rfl)
            intro k59
            induction k59 with
            | zero =>
              intro k I2 F2 hfuel hk1 hk2 hI2 hF2 H locs hH ls hl
              exact absurd hfuel (by omega)
            | succ k59 ih59 =>
              intro k I2 F2 hfuel hk1 hk2 hI2 hF2 H locs hH ls hl
              refine lv_iload hx hb dX7_burn_59 (lv_at hl 4 rfl) ?_
              refine lv_bipush (v := 12) hx hb dX7_burn_61 (by decide) ?_
              refine lv_iload_n hx hb dX7_burn_63 rfl (lv_at hl 3 rfl) ?_
              refine lv_iconst (v := 1) hx hb dX7_burn_64 (by decide) ?_
              refine N_iadd hx hb t 1 rfl rfl dX7_burn_65 ?_
              refine N_imul hx hb 12 (t + 1) rfl rfl dX7_burn_66 ?_
              refine lv_icmp_ge (tgt := 100) hx hb dX7_burn_67 (by decide) (fun c67 => ?_) (fun c67 => ?_)
              · have c67 : (12 * (t + 1)) ≤ k := (nI_leI (a := (12 * (t + 1))) (b := k) (by omega) (by omega)).mp c67
                refine lv_iinc (v := nI (t + 1)) (lv' := [(3, .int (nI (t + 1))), (0, .ref (ad 0)), (1, .int (nI w)), (2, .int (n + 1)), (4, .int (nI k))]) hx hb dX7_burn_100 hl (k := 3) rfl (by exact nI_add _ 1) (by decide) rfl (fun ls hl => ?_)
                refine lv_goto (tgt := 13) hx hb dX7_burn_103 (by decide) ?_
                exact ih13 (t + 1) (n + 1) I2 F2 (by omega) (by omega) (by first | exact h3 | (rw [hI2]; exact h3)) (by first | (simp only [burnS]; rw [← hS]; simp only []; rw [if_neg c28]; done) | (simp only [burnS]; rw [← hS]; simp only []; rw [if_pos c28, if_neg c37]; done) | (simp only [burnS]; rw [← hS]; simp only []; rw [if_pos c28, if_pos c37, hI2, hF2, show k = 12 * t + 12 by omega, show 12 * t + 12 - 12 * t = 12 by omega]; rfl)) _ _ hH ls (lv_sub hl [1, 2, 3, 0] rfl)
              · have c67 : ¬ (12 * (t + 1)) ≤ k := fun zz => c67 ((nI_leI (a := (12 * (t + 1))) (b := k) (by omega) (by omega)).mpr zz)
                refine lv_aload_n hx hb dX7_burn_70 rfl (lv_at hl 0 rfl) ?_
                refine lv_dup hx hb dX7_burn_71 rfl ?_
                refine M_get hx hb hts hiX7 hown hK hρ hH 29 (by decide) hf180 (v := .int (I2 29)) rfl dX7_burn_72 ?_
                refine lv_aload_n hx hb dX7_burn_75 rfl (lv_at hl 0 rfl) ?_
                refine M_get hx hb hts hiX7 hown hK hρ hH 14 (by decide) hf47 (v := .ref (ad 14)) rfl dX7_burn_76 ?_
                refine lv_iload hx hb dX7_burn_79 (lv_at hl 4 rfl) ?_
                refine M_iald hx hb hK hρ hH 14 720 (by decide) k rfl (by omega) dX7_burn_81 ?_
                refine lv_iadd hx hb dX7_burn_82 ?_
                refine M_put hx hb hts hiX7 hown hK hρ hH 29 (by decide) hf180 rfl (by decide +kernel) rfl dX7_burn_83 (fun H locs hH => ?_)
                obtain ⟨I83, eI83⟩ : ∃ z, z = va_up I2 29 ((I2 29) + (F2 14 k)) := ⟨_, rfl⟩
                rw [← eI83] at hH
                refine lv_aload_n hx hb dX7_burn_86 rfl (lv_at hl 0 rfl) ?_
                refine M_get hx hb hts hiX7 hown hK hρ hH 14 (by decide) hf47 (v := .ref (ad 14)) rfl dX7_burn_87 ?_
                refine lv_iload hx hb dX7_burn_90 (lv_at hl 4 rfl) ?_
                refine lv_iconst (v := 0) hx hb dX7_burn_92 (by decide) ?_
                refine M_iast hx hb hK hρ hH 14 720 (by decide) k rfl (by omega) dX7_burn_93 (fun H locs hH => ?_)
                obtain ⟨F93, eF93⟩ : ∃ z, z = setA F2 14 k 0 := ⟨_, rfl⟩
                rw [← eF93] at hH
                refine lv_iinc (v := nI (k + 1)) (lv' := [(4, .int (nI (k + 1))), (0, .ref (ad 0)), (1, .int (nI w)), (2, .int (n + 1)), (3, .int (nI t))]) hx hb dX7_burn_94 hl (k := 4) rfl (by exact nI_add _ 1) (by decide) rfl (fun ls hl => ?_)
                refine lv_goto (tgt := 59) hx hb dX7_burn_97 (by decide) ?_
                exact ih59 (k + 1) I83 F93 (by omega) (by omega) (by omega) (by rw [eI83, hI2, up_up, up_k, hF2, zeroC_at, setA_n F1 t 1 (show 14 ≠ 8 by decide), show k + 1 - 12 * t = (k - 12 * t) + 1 by omega]; simp only [l_sum]; rw [Int32.add_assoc, show 12 * t + (k - 12 * t) = k by omega]) (by rw [eF93, hF2]; exact zeroC_s _ hk1) _ _ hH ls (lv_sub hl [1, 2, 3, 4, 0] rfl)
          · refine lv_goto (tgt := 100) hx hb dX7_burn_40 (by decide) ?_
            refine lv_iinc (v := nI (t + 1)) (lv' := [(3, .int (nI (t + 1))), (0, .ref (ad 0)), (1, .int (nI w)), (2, .int n)]) hx hb dX7_burn_100 hl (k := 3) rfl (by exact nI_add _ 1) (by decide) rfl (fun ls hl => ?_)
            refine lv_goto (tgt := 13) hx hb dX7_burn_103 (by decide) ?_
            exact ih13 (t + 1) n I1 F1 (by omega) (by omega) (by first | exact h3 | (rw [hI2]; exact h3)) (by first | (simp only [burnS]; rw [← hS]; simp only []; rw [if_neg c28]; done) | (simp only [burnS]; rw [← hS]; simp only []; rw [if_pos c28, if_neg c37]; done) | (simp only [burnS]; rw [← hS]; simp only []; rw [if_pos c28, if_pos c37, hI2, hF2, show k = 12 * t + 12 by omega, show 12 * t + 12 - 12 * t = 12 by omega]; rfl)) _ _ hH ls (lv_sub hl [1, 2, 3, 0] rfl)
  · refine lv_iconst (v := (-1)) hx hb dX7_burn_7 (by decide) ?_
    exact x_iret (v := (-1)) (I, F) hx hb hr hlocks hK hH (by simp only [sBurn]; rw [if_pos c4]) dX7_burn_8
