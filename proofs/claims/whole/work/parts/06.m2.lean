
theorem inI_pred {v : Int32} {n : Nat} (h : inI v 0 (nI n - 1)) (hn : n < 2 ^ 31) : ∃ j, j < n ∧ v = nI j := by
  obtain ⟨h1, h2⟩ := h
  obtain ⟨j, hj, rfl⟩ := nI_of h1
  cases n with
  | zero => exact absurd (show nI 0 - 1 < nI j by
      have : (nI 0 - 1 : Int32) = -1 := by decide
      rw [this, Int32.lt_iff_toInt_lt, nI_toInt hj, show ((-1 : Int32)).toInt = -1 by decide]
      omega) h2
  | succ n =>
    rw [nI_pred] at h2
    exact ⟨j, Nat.lt_succ_of_le (Nat.le_of_not_lt (fun q => h2 ((nI_ltI (by omega) hj).mpr q))), rfl⟩
theorem inI_pred_of {j n : Nat} (h : j < n) (hn : n < 2 ^ 31) : inI (nI j) 0 (nI n - 1) := by
  obtain ⟨m, rfl⟩ : ∃ m, n = m + 1 := ⟨n - 1, by omega⟩
  rw [nI_pred]
  exact inI_of (a := 0) (Nat.zero_le j) (by omega) (by omega)
theorem swOut {x : Int32} (n : Nat) (h : ∀ k, k ≤ n → ¬ x = nI k) : x.toInt < (0 : Int) ∨ (n : Int) < x.toInt := by
  by_cases h0 : x < 0
  · left
    rw [Int32.lt_iff_toInt_lt] at h0
    exact h0
  · right
    obtain ⟨j, hj, rfl⟩ := nI_of h0
    rw [nI_toInt hj]
    have : ¬ j ≤ n := fun q => h j q rfl
    omega
abbrev ix (x : Int32) : Nat := x.toNatClampNeg
abbrev MS : Type := (Nat → Int32) × (Nat → Nat → Int32)
def sTree (I : Nat → Int32) (F : Nat → Nat → Int32) (nT : Nat) (wood wh girth : Int32) : Int32 × MS := if binI wood 0 5 = 0 then (-1, I, F) else if binI wh 0 9999 = 0 then (-1, I, F) else if binI girth 20 400 = 0 then (-1, I, F) else if nT = 60 then (-1, I, F) else (nI nT, va_up I 3 (nI (nT + 1)), setA (setA (setA (setA F 4 nT wood) 5 nT (wh / 100)) 6 nT (wh - wh / 100 * 100)) 7 nT girth)
def wfill (F : Nat → Nat → Int32) (a d : Nat) (w r : Int32) : Nat → Nat → Int32 := fun k j => if k = 1 ∧ a ≤ j ∧ j < d then w else if k = 2 ∧ a ≤ j ∧ j < d then r else F k j
theorem wfill_0 (F : Nat → Nat → Int32) (a : Nat) (w r : Int32) : wfill F a a w r = F := by
  funext k j
  unfold wfill
  rw [if_neg (by omega), if_neg (by omega)]
theorem wfill_s (F : Nat → Nat → Int32) {a d : Nat} (w r : Int32) (h : a ≤ d) : setA (setA (wfill F a d w r) 1 d w) 2 d r = wfill F a (d + 1) w r := by
  funext k j
  simp only [setA_e, wfill]
  by_cases h1 : k = 1
  · subst h1
    by_cases hj : j = d
    · subst hj; simp [h]
    · simp [hj, show (a ≤ j ∧ j < d + 1) ↔ (a ≤ j ∧ j < d) by omega]
  · by_cases h2 : k = 2
    · subst h2
      by_cases hj : j = d
      · subst hj; simp [h]
      · simp [hj, show (a ≤ j ∧ j < d + 1) ↔ (a ≤ j ∧ j < d) by omega]
    · simp [h1, h2]
def sWeather (I : Nat → Int32) (F : Nat → Nat → Int32) (fr to w r : Int32) : Int32 × MS := if binI fr (I 0) 3649 = 0 then (0, I, F) else if binI to fr 3649 = 0 then (0, I, F) else if binI w 0 9 = 0 then (0, I, F) else if binI r 0 9 = 0 then (0, I, F) else (1, I, wfill F (ix fr) (ix to + 1) w r)
def sLet (I : Nat → Int32) (F : Nat → Nat → Int32) (wd rent : Int32) : Int32 × MS := if binI wd 0 5 = 0 then (0, I, F) else if binI rent 0 100 = 0 then (0, I, F) else (1, I, setA (setA (setA (setA F 22 (ix wd) 1) 23 (ix wd) rent) 24 (ix wd) 0) 25 (ix wd) 0)
def sDue (F : Nat → Nat → Int32) (wd : Int32) : Int32 := if binI wd 0 5 = 0 then 0 else if F 22 (ix wd) = 0 then 0 else ((F 24 (ix wd)).toInt64 * (F 23 (ix wd)).toInt64 / 100).toInt32 - F 25 (ix wd)
def sFrom (I : Nat → Int32) (F : Nat → Nat → Int32) (b t : Int32) : Int32 := if binI b 0 (I 16 - 1) = 0 then -1 else if binI t 0 (I 3 - 1) = 0 then -1 else F 19 (60 * ix b + ix t)
def rst (Y : Int32) (y : Nat) : Nat → Int32
  | 0 => if 4 ≤ y then 1 else 0
  | j + 1 => if rst Y y j = 0 then 0 else if (Y >>> (nI (y - (j + 1)) &&& 31)) &&& 1 = 1 then 1 else 0
theorem rst_0 {Y : Int32} {y j n : Nat} (h : rst Y y j = 0) : rst Y y (j + n) = 0 := by
  induction n with
  | zero => exact h
  | succ n ih => show (if rst Y y (j + n) = 0 then (0 : Int32) else _) = 0; rw [if_pos ih]
theorem rst_y {Y : Int32} {y j : Nat} (h : ¬ rst Y y j = 0) : 4 ≤ y := by
  induction j with
  | zero =>
    by_cases q : 4 ≤ y
    · exact q
    · exact absurd (by simp [rst, q]) h
  | succ j ih =>
    apply ih
    intro q
    exact h (by simp [rst, q])
theorem rst_n {Y : Int32} {y : Nat} : ∀ j, narrow .boolean (.int (rst Y y j)) = .int (rst Y y j)
  | 0 => by unfold rst; split <;> rfl
  | j + 1 => by unfold rst; split <;> (try split) <;> rfl
def sRests (I : Nat → Int32) (F : Nat → Nat → Int32) (t : Int32) : Int32 := if binI t 0 (I 3 - 1) = 0 then 0 else rst (F 10 (ix t)) (ix (I 0) / 365) 4
theorem ix_n {n : Nat} (h : n < 2 ^ 31) : ix (nI n) = n := nI_clamp h
def roomS (F : Nat → Nat → Int32) (w : Int32) : Nat → Int32
  | 0 => 0
  | b + 1 => roomS F w b + (if F 17 b = w then (if fullI F b = 0 then 1000 - hasS F b else 0) else 0)

set_option maxHeartbeats 4000000 in
set_option maxRecDepth 100000 in
theorem c_X7_tree (l : Launch) (G : XG) (A : Nat → Prop) (ρ : Nat → Option Nat) (ad : Nat → Nat) (b : XW) (I : Nat → Int32) (F : Nat → Nat → Int32) (hρ : mA ρ ad) (nT : Nat) (hn : I 3 = nI nT) (hT : nT ≤ 60) (wood wh girth : Int32) : Met l yX7_tree wsX7_tree ({ frames := 1, cells := 0, slots := 0, locals := 22 }) (va_Pc [.ref (ad 0), .int wood, .int wh, .int girth] (xP G A (mw G ρ ad b I F))) (va_Qi (fun (r : Int32) (u : (Nat → Int32) × (Nat → Nat → Int32)) => (r, u) = sTree I F nT wood wh girth) (fun u t => xB G A (mw G ρ ad b u.1 u.2) t) A) 0 0 A := by
  refine Met.ofW (cc := cX7_tree) (maxL := 4) (ret := (some .int)) (by decide) rfl ?_
  intro p e s m args below meth c s₁ B hml hv
  obtain ⟨rfl, hK, hH, hTt⟩ := hv
  have hx := B.exec
  have hb := B.bytes
  have hr := B.returns
  have hts := atoms_spec (ws := wsX7_tree) B.pre
  have hown : s.vm.findClass RX7 = some m.cls := findClass_of_methodNamed B.named
  have hlocks := B.notSynchronized
  have hiX7 : ∀ w ∈ wsX70, w ∈ wsX7_tree := by decide +kernel
  have hf16 := hts (.fieldLink RX7 16 "ResinWoodsModel" "wood" "[I") (by decide +kernel)
  have hf19 := hts (.fieldLink RX7 19 "ResinWoodsModel" "placeX" "[I") (by decide +kernel)
  have hf22 := hts (.fieldLink RX7 22 "ResinWoodsModel" "placeY" "[I") (by decide +kernel)
  have hf25 := hts (.fieldLink RX7 25 "ResinWoodsModel" "girth" "[I") (by decide +kernel)
  have hf92 := hts (.fieldLink RX7 92 "ResinWoodsModel" "trees" "I") (by decide +kernel)
  have hl := lv_entry ([.ref (ad 0), .int wood, .int wh, .int girth]) (n := 4) (Nat.le_of_ble_eq_true rfl)
  rw [lg_entry_eq]
  generalize (lg_sl ([.ref (ad 0), .int wood, .int wh, .int girth]) ++ List.replicate (4 - (lg_sl ([.ref (ad 0), .int wood, .int wh, .int girth])).length) Slot.unset).toArray = ls at hl ⊢
  have hl : lv_has ls 4 [(0, .ref (ad 0)), (1, .int wood), (2, .int wh), (3, .int girth)] := hl
  refine lv_iload_n hx hb dX7_tree_0 rfl (lv_at hl 1 rfl) ?_
  refine lv_iconst (v := 0) hx hb dX7_tree_1 (by decide) ?_
  refine lv_iconst (v := 5) hx hb dX7_tree_2 (by decide) ?_
  refine x_calli (va_runS (As := [.int wood, .int 0, .int 5]) (rest := []) ⟨hx, hb, hml, hown, hts⟩ (c_X7_in l G A (mw G ρ ad b I F) wood 0 5) (va_cwS 3 hts gX7_tree_X7_in rfl rfl rfl (by decide +kernel) ⟨Nat.le_of_ble_eq_true rfl, Nat.le_of_ble_eq_true rfl⟩) (x_preS hK hH hTt [.int wood, .int 0, .int 5]) rfl rfl hl.1 rfl (lv_room (Nat.le_of_ble_eq_true rfl)) dX7_tree_3 ⟨Nat.le_of_ble_eq_true rfl, Nat.le_of_ble_eq_true rfl⟩) hH (fun r3 u H locs hp hH => ?_)
  subst hp
  have hH : xH G A s.heap H locs (mw G ρ ad b I F) := hH
  refine lv_if_eq (tgt := 41) hx hb dX7_tree_6 (by decide) (fun c6 => ?_) (fun c6 => ?_)
  · refine lv_iconst (v := (-1)) hx hb dX7_tree_41 (by decide) ?_
    exact x_iret (v := (-1)) (I, F) hx hb hr hlocks hK hH (by simp [sTree, *]) dX7_tree_42
  · refine lv_iload_n hx hb dX7_tree_9 rfl (lv_at hl 2 rfl) ?_
    refine lv_iconst (v := 0) hx hb dX7_tree_10 (by decide) ?_
    refine lv_sipush (v := 9999) hx hb dX7_tree_11 (by decide) ?_
    refine x_calli (va_runS (As := [.int wh, .int 0, .int 9999]) (rest := []) ⟨hx, hb, hml, hown, hts⟩ (c_X7_in l G A (mw G ρ ad b I F) wh 0 9999) (va_cwS 3 hts gX7_tree_X7_in rfl rfl rfl (by decide +kernel) ⟨Nat.le_of_ble_eq_true rfl, Nat.le_of_ble_eq_true rfl⟩) (x_preS hK hH hTt [.int wh, .int 0, .int 9999]) rfl rfl hl.1 rfl (lv_room (Nat.le_of_ble_eq_true rfl)) dX7_tree_14 ⟨Nat.le_of_ble_eq_true rfl, Nat.le_of_ble_eq_true rfl⟩) hH (fun r14 u H locs hp hH => ?_)
    subst hp
    have hH : xH G A s.heap H locs (mw G ρ ad b I F) := hH
    refine lv_if_eq (tgt := 41) hx hb dX7_tree_17 (by decide) (fun c17 => ?_) (fun c17 => ?_)
    · refine lv_iconst (v := (-1)) hx hb dX7_tree_41 (by decide) ?_
      exact x_iret (v := (-1)) (I, F) hx hb hr hlocks hK hH (by simp [sTree, *]) dX7_tree_42
    · refine lv_iload_n hx hb dX7_tree_20 rfl (lv_at hl 3 rfl) ?_
      refine lv_bipush (v := 20) hx hb dX7_tree_21 (by decide) ?_
      refine lv_sipush (v := 400) hx hb dX7_tree_23 (by decide) ?_
      refine x_calli (va_runS (As := [.int girth, .int 20, .int 400]) (rest := []) ⟨hx, hb, hml, hown, hts⟩ (c_X7_in l G A (mw G ρ ad b I F) girth 20 400) (va_cwS 3 hts gX7_tree_X7_in rfl rfl rfl (by decide +kernel) ⟨Nat.le_of_ble_eq_true rfl, Nat.le_of_ble_eq_true rfl⟩) (x_preS hK hH hTt [.int girth, .int 20, .int 400]) rfl rfl hl.1 rfl (lv_room (Nat.le_of_ble_eq_true rfl)) dX7_tree_26 ⟨Nat.le_of_ble_eq_true rfl, Nat.le_of_ble_eq_true rfl⟩) hH (fun r26 u H locs hp hH => ?_)
      subst hp
      have hH : xH G A s.heap H locs (mw G ρ ad b I F) := hH
      refine lv_if_eq (tgt := 41) hx hb dX7_tree_29 (by decide) (fun c29 => ?_) (fun c29 => ?_)
      · refine lv_iconst (v := (-1)) hx hb dX7_tree_41 (by decide) ?_
        exact x_iret (v := (-1)) (I, F) hx hb hr hlocks hK hH (by simp [sTree, *]) dX7_tree_42
      · refine lv_aload_n hx hb dX7_tree_32 rfl (lv_at hl 0 rfl) ?_
        refine M_get hx hb hts hiX7 hown hK hρ hH 3 (by decide) hf92 (v := .int (nI nT)) (congrArg (fun z => some (Value.int z)) hn) dX7_tree_33 ?_
        refine lv_bipush (v := 60) hx hb dX7_tree_36 (by decide) ?_
        refine lv_icmp_ne (tgt := 43) hx hb dX7_tree_38 (by decide) (fun c38 => ?_) (fun c38 => ?_)
        · have c38 : ¬ nT = 60 := fun zz => c38 ((nI_eq (a := nT) (b := 60) (by omega) (by omega)).mpr zz)
          refine lv_aload_n hx hb dX7_tree_43 rfl (lv_at hl 0 rfl) ?_
          refine M_get hx hb hts hiX7 hown hK hρ hH 4 (by decide) hf16 (v := .ref (ad 4)) rfl dX7_tree_44 ?_
          refine lv_aload_n hx hb dX7_tree_47 rfl (lv_at hl 0 rfl) ?_
          refine M_get hx hb hts hiX7 hown hK hρ hH 3 (by decide) hf92 (v := .int (nI nT)) (congrArg (fun z => some (Value.int z)) hn) dX7_tree_48 ?_
          refine lv_iload_n hx hb dX7_tree_51 rfl (lv_at hl 1 rfl) ?_
          refine M_iast hx hb hK hρ hH 4 60 (by decide) nT rfl (by omega) dX7_tree_52 (fun H locs hH => ?_)
          obtain ⟨F52, eF52⟩ : ∃ z, z = setA F 4 nT wood := ⟨_, rfl⟩
          rw [← eF52] at hH
          refine lv_aload_n hx hb dX7_tree_53 rfl (lv_at hl 0 rfl) ?_
          refine M_get hx hb hts hiX7 hown hK hρ hH 5 (by decide) hf19 (v := .ref (ad 5)) rfl dX7_tree_54 ?_
          refine lv_aload_n hx hb dX7_tree_57 rfl (lv_at hl 0 rfl) ?_
          refine M_get hx hb hts hiX7 hown hK hρ hH 3 (by decide) hf92 (v := .int (nI nT)) (congrArg (fun z => some (Value.int z)) hn) dX7_tree_58 ?_
          refine lv_iload_n hx hb dX7_tree_61 rfl (lv_at hl 2 rfl) ?_
          refine lv_bipush (v := 100) hx hb dX7_tree_62 (by decide) ?_
          refine lv_idiv hx hb dX7_tree_64 (by decide) ?_
          refine M_iast hx hb hK hρ hH 5 60 (by decide) nT rfl (by omega) dX7_tree_65 (fun H locs hH => ?_)
          obtain ⟨F65, eF65⟩ : ∃ z, z = setA F52 5 nT (wh / 100) := ⟨_, rfl⟩
          rw [← eF65] at hH
          refine lv_aload_n hx hb dX7_tree_66 rfl (lv_at hl 0 rfl) ?_
          refine M_get hx hb hts hiX7 hown hK hρ hH 6 (by decide) hf22 (v := .ref (ad 6)) rfl dX7_tree_67 ?_
          refine lv_aload_n hx hb dX7_tree_70 rfl (lv_at hl 0 rfl) ?_
          refine M_get hx hb hts hiX7 hown hK hρ hH 3 (by decide) hf92 (v := .int (nI nT)) (congrArg (fun z => some (Value.int z)) hn) dX7_tree_71 ?_
          refine lv_iload_n hx hb dX7_tree_74 rfl (lv_at hl 2 rfl) ?_
          refine lv_bipush (v := 100) hx hb dX7_tree_75 (by decide) ?_
          refine lv_irem hx hb dX7_tree_77 (by decide) ?_
          refine M_iast hx hb hK hρ hH 6 60 (by decide) nT rfl (by omega) dX7_tree_78 (fun H locs hH => ?_)
          obtain ⟨F78, eF78⟩ : ∃ z, z = setA F65 6 nT (wh - wh / 100 * 100) := ⟨_, rfl⟩
          rw [← eF78] at hH
          refine lv_aload_n hx hb dX7_tree_79 rfl (lv_at hl 0 rfl) ?_
          refine M_get hx hb hts hiX7 hown hK hρ hH 7 (by decide) hf25 (v := .ref (ad 7)) rfl dX7_tree_80 ?_
          refine lv_aload_n hx hb dX7_tree_83 rfl (lv_at hl 0 rfl) ?_
          refine M_get hx hb hts hiX7 hown hK hρ hH 3 (by decide) hf92 (v := .int (nI nT)) (congrArg (fun z => some (Value.int z)) hn) dX7_tree_84 ?_
          refine lv_iload_n hx hb dX7_tree_87 rfl (lv_at hl 3 rfl) ?_
          refine M_iast hx hb hK hρ hH 7 60 (by decide) nT rfl (by omega) dX7_tree_88 (fun H locs hH => ?_)
          obtain ⟨F88, eF88⟩ : ∃ z, z = setA F78 7 nT girth := ⟨_, rfl⟩
          rw [← eF88] at hH
          refine lv_aload_n hx hb dX7_tree_89 rfl (lv_at hl 0 rfl) ?_
          refine lv_dup hx hb dX7_tree_90 rfl ?_
          refine M_get hx hb hts hiX7 hown hK hρ hH 3 (by decide) hf92 (v := .int (nI nT)) (congrArg (fun z => some (Value.int z)) hn) dX7_tree_91 ?_
          refine lv_iconst (v := 1) hx hb dX7_tree_94 (by decide) ?_
          refine N_iadd hx hb nT 1 rfl rfl dX7_tree_95 ?_
          refine M_put hx hb hts hiX7 hown hK hρ hH 3 (by decide) hf92 rfl (by decide +kernel) rfl dX7_tree_96 (fun H locs hH => ?_)
          obtain ⟨I96, eI96⟩ : ∃ z, z = va_up I 3 (nI (nT + 1)) := ⟨_, rfl⟩
          rw [← eI96] at hH
          refine lv_aload_n hx hb dX7_tree_99 rfl (lv_at hl 0 rfl) ?_
          refine M_get hx hb hts hiX7 hown hK hρ hH 3 (by decide) hf92 (v := .int (nI (nT + 1))) (congrArg (fun z => some (Value.int z)) (show I96 3 = _ by rw [eI96]; exact if_pos rfl)) dX7_tree_100 ?_
          refine lv_iconst (v := 1) hx hb dX7_tree_103 (by decide) ?_
          refine N_isub hx hb (nT + 1) 1 rfl rfl (by omega) dX7_tree_104 ?_
          exact x_iret (v := nI ((nT + 1) - 1)) (I96, F88) hx hb hr hlocks hK hH (by subst eF52 eF65 eF78 eF88 eI96; simp [sTree, *]) dX7_tree_105
        · have c38 : nT = 60 := (nI_eq (a := nT) (b := 60) (by omega) (by omega)).mp c38
          refine lv_iconst (v := (-1)) hx hb dX7_tree_41 (by decide) ?_
          exact x_iret (v := (-1)) (I, F) hx hb hr hlocks hK hH (by simp [sTree, *]) dX7_tree_42

set_option maxHeartbeats 4000000 in
set_option maxRecDepth 100000 in
theorem c_X7_weather (l : Launch) (G : XG) (A : Nat → Prop) (ρ : Nat → Option Nat) (ad : Nat → Nat) (b : XW) (I : Nat → Int32) (F : Nat → Nat → Int32) (hρ : mA ρ ad) (now : Nat) (hw : I 0 = nI now) (hN : now ≤ 3650) (fr to w r0 : Int32) : Met l yX7_weather wsX7_weather ({ frames := 1, cells := 0, slots := 0, locals := 22 }) (va_Pc [.ref (ad 0), .int fr, .int to, .int w, .int r0] (xP G A (mw G ρ ad b I F))) (va_Qi (fun (r : Int32) (u : (Nat → Int32) × (Nat → Nat → Int32)) => (r, u) = sWeather I F fr to w r0) (fun u t => xB G A (mw G ρ ad b u.1 u.2) t) A) 0 0 A := by
  refine Met.ofW (cc := cX7_weather) (maxL := 6) (ret := (some .boolean)) (by decide) rfl ?_
  intro p e s m args below meth c s₁ B hml hv
  obtain ⟨rfl, hK, hH, hTt⟩ := hv
  have hx := B.exec
  have hb := B.bytes
  have hr := B.returns
  have hts := atoms_spec (ws := wsX7_weather) B.pre
  have hown : s.vm.findClass RX7 = some m.cls := findClass_of_methodNamed B.named
  have hlocks := B.notSynchronized
  have hiX7 : ∀ w ∈ wsX70, w ∈ wsX7_weather := by decide +kernel
  have hf9 := hts (.fieldLink RX7 9 "ResinWoodsModel" "warmth" "[I") (by decide +kernel)
  have hf13 := hts (.fieldLink RX7 13 "ResinWoodsModel" "rain" "[I") (by decide +kernel)
  have hf100 := hts (.fieldLink RX7 100 "ResinWoodsModel" "now" "I") (by decide +kernel)
  have hl := lv_entry ([.ref (ad 0), .int fr, .int to, .int w, .int r0]) (n := 6) (Nat.le_of_ble_eq_true rfl)
  rw [lg_entry_eq]
  generalize (lg_sl ([.ref (ad 0), .int fr, .int to, .int w, .int r0]) ++ List.replicate (6 - (lg_sl ([.ref (ad 0), .int fr, .int to, .int w, .int r0])).length) Slot.unset).toArray = ls at hl ⊢
  have hl : lv_has ls 6 [(0, .ref (ad 0)), (1, .int fr), (2, .int to), (3, .int w), (4, .int r0)] := hl
  refine lv_iload_n hx hb dX7_weather_0 rfl (lv_at hl 1 rfl) ?_
  refine lv_aload_n hx hb dX7_weather_1 rfl (lv_at hl 0 rfl) ?_
  refine M_get hx hb hts hiX7 hown hK hρ hH 0 (by decide) hf100 (v := .int (nI now)) (congrArg (fun z => some (Value.int z)) hw) dX7_weather_2 ?_
  refine lv_sipush (v := 3649) hx hb dX7_weather_5 (by decide) ?_
  refine x_calli (va_runS (As := [.int fr, .int (nI now), .int 3649]) (rest := []) ⟨hx, hb, hml, hown, hts⟩ (c_X7_in l G A (mw G ρ ad b I F) fr (nI now) 3649) (va_cwS 3 hts gX7_weather_X7_in rfl rfl rfl (by decide +kernel) ⟨Nat.le_of_ble_eq_true rfl, Nat.le_of_ble_eq_true rfl⟩) (x_preS hK hH hTt [.int fr, .int (nI now), .int 3649]) rfl rfl hl.1 rfl (lv_room (Nat.le_of_ble_eq_true rfl)) dX7_weather_8 ⟨Nat.le_of_ble_eq_true rfl, Nat.le_of_ble_eq_true rfl⟩) hH (fun r8 u H locs hp hH => ?_)
  subst hp
  have hH : xH G A s.heap H locs (mw G ρ ad b I F) := hH
  refine lv_if_eq (tgt := 46) hx hb dX7_weather_11 (by decide) (fun c11 => ?_) (fun c11 => ?_)
  · refine lv_iconst (v := 0) hx hb dX7_weather_46 (by decide) ?_
    exact x_zret (v := 0) (I, F) hx hb hr hlocks (by decide) hK hH (by simp [sWeather, *]) dX7_weather_47
  · obtain ⟨a, ha0, ha1, rfl⟩ := inI_nat (a := now) (b := 3649) (binI_1.mp c11) (by omega) (by omega)
    refine lv_iload_n hx hb dX7_weather_14 rfl (lv_at hl 2 rfl) ?_
    refine lv_iload_n hx hb dX7_weather_15 rfl (lv_at hl 1 rfl) ?_
    refine lv_sipush (v := 3649) hx hb dX7_weather_16 (by decide) ?_
    refine x_calli (va_runS (As := [.int to, .int (nI a), .int 3649]) (rest := []) ⟨hx, hb, hml, hown, hts⟩ (c_X7_in l G A (mw G ρ ad b I F) to (nI a) 3649) (va_cwS 3 hts gX7_weather_X7_in rfl rfl rfl (by decide +kernel) ⟨Nat.le_of_ble_eq_true rfl, Nat.le_of_ble_eq_true rfl⟩) (x_preS hK hH hTt [.int to, .int (nI a), .int 3649]) rfl rfl hl.1 rfl (lv_room (Nat.le_of_ble_eq_true rfl)) dX7_weather_19 ⟨Nat.le_of_ble_eq_true rfl, Nat.le_of_ble_eq_true rfl⟩) hH (fun r19 u H locs hp hH => ?_)
    subst hp
    have hH : xH G A s.heap H locs (mw G ρ ad b I F) := hH
    refine lv_if_eq (tgt := 46) hx hb dX7_weather_22 (by decide) (fun c22 => ?_) (fun c22 => ?_)
    · refine lv_iconst (v := 0) hx hb dX7_weather_46 (by decide) ?_
      exact x_zret (v := 0) (I, F) hx hb hr hlocks (by decide) hK hH (by simp [sWeather, *]) dX7_weather_47
    · obtain ⟨z, hz0, hz1, rfl⟩ := inI_nat (a := a) (b := 3649) (binI_1.mp c22) (by omega) (by omega)
      refine lv_iload_n hx hb dX7_weather_25 rfl (lv_at hl 3 rfl) ?_
      refine lv_iconst (v := 0) hx hb dX7_weather_26 (by decide) ?_
      refine lv_bipush (v := 9) hx hb dX7_weather_27 (by decide) ?_
      refine x_calli (va_runS (As := [.int w, .int 0, .int 9]) (rest := []) ⟨hx, hb, hml, hown, hts⟩ (c_X7_in l G A (mw G ρ ad b I F) w 0 9) (va_cwS 3 hts gX7_weather_X7_in rfl rfl rfl (by decide +kernel) ⟨Nat.le_of_ble_eq_true rfl, Nat.le_of_ble_eq_true rfl⟩) (x_preS hK hH hTt [.int w, .int 0, .int 9]) rfl rfl hl.1 rfl (lv_room (Nat.le_of_ble_eq_true rfl)) dX7_weather_29 ⟨Nat.le_of_ble_eq_true rfl, Nat.le_of_ble_eq_true rfl⟩) hH (fun r29 u H locs hp hH => ?_)
      subst hp
      have hH : xH G A s.heap H locs (mw G ρ ad b I F) := hH
      refine lv_if_eq (tgt := 46) hx hb dX7_weather_32 (by decide) (fun c32 => ?_) (fun c32 => ?_)
      · refine lv_iconst (v := 0) hx hb dX7_weather_46 (by decide) ?_
        exact x_zret (v := 0) (I, F) hx hb hr hlocks (by decide) hK hH (by simp [sWeather, *]) dX7_weather_47
      · refine lv_iload hx hb dX7_weather_35 (lv_at hl 4 rfl) ?_
        refine lv_iconst (v := 0) hx hb dX7_weather_37 (by decide) ?_
        refine lv_bipush (v := 9) hx hb dX7_weather_38 (by decide) ?_
        refine x_calli (va_runS (As := [.int r0, .int 0, .int 9]) (rest := []) ⟨hx, hb, hml, hown, hts⟩ (c_X7_in l G A (mw G ρ ad b I F) r0 0 9) (va_cwS 3 hts gX7_weather_X7_in rfl rfl rfl (by decide +kernel) ⟨Nat.le_of_ble_eq_true rfl, Nat.le_of_ble_eq_true rfl⟩) (x_preS hK hH hTt [.int r0, .int 0, .int 9]) rfl rfl hl.1 rfl (lv_room (Nat.le_of_ble_eq_true rfl)) dX7_weather_40 ⟨Nat.le_of_ble_eq_true rfl, Nat.le_of_ble_eq_true rfl⟩) hH (fun r40 u H locs hp hH => ?_)
        subst hp
        have hH : xH G A s.heap H locs (mw G ρ ad b I F) := hH
        refine lv_if_ne (tgt := 48) hx hb dX7_weather_43 (by decide) (fun c43 => ?_) (fun c43 => ?_)
        · refine lv_iload_n hx hb dX7_weather_48 rfl (lv_at hl 1 rfl) ?_
          refine lv_istore (lv' := [(5, .int (nI a)), (0, .ref (ad 0)), (1, .int (nI a)), (2, .int (nI z)), (3, .int w), (4, .int r0)]) hx hb dX7_weather_49 hl (by decide) rfl (fun ls hl => ?_)
          suffices loop51 : ∀ (k51 : Nat) (d : Nat) (F1 : Nat → Nat → Int32), (z + 1 < d + k51) → (a ≤ d) → (d ≤ z + 1) → (F1 = wfill F a d w r0) → ∀ (H : Heap) (locs : List Loc), xH G A s.heap H locs (mw G ρ ad b I F1) → ∀ (ls : Array Slot), lv_has ls 6 [(0, .ref (ad 0)), (1, .int (nI a)), (2, .int (nI z)), (3, .int w), (4, .int r0), (5, .int (nI d))] → W p l e (headSpec wsX7_weather _).room s m _ below meth c H locs 0 0 (MQ below _ _ s 0 0 A) (F0 m 51 ls []) from
            loop51 (z + 3) a F (by omega) (by omega) (by omega) ((wfill_0 F a w r0).symm) _ _ hH ls (lv_sub hl [1, 2, 3, 4, 5, 0] rfl)
          intro k51
          induction k51 with
          | zero =>
            intro d F1 hfuel hd1 hd2 hF H locs hH ls hl
            exact absurd hfuel (by omega)
          | succ k51 ih51 =>
            intro d F1 hfuel hd1 hd2 hF H locs hH ls hl
            refine lv_iload hx hb dX7_weather_51 (lv_at hl 5 rfl) ?_
            refine lv_iload_n hx hb dX7_weather_53 rfl (lv_at hl 2 rfl) ?_
            refine lv_icmp_gt (tgt := 80) hx hb dX7_weather_54 (by decide) (fun c54 => ?_) (fun c54 => ?_)
            · have c54 : z < d := (nI_ltI (a := z) (b := d) (by omega) (by omega)).mp c54
              refine lv_iconst (v := 1) hx hb dX7_weather_80 (by decide) ?_
              exact x_zret (v := 1) (I, F1) hx hb hr hlocks (by decide) hK hH (by rw [hF]; simp only [sWeather, hw]; rw [if_neg c11, if_neg c22, if_neg c32, if_neg c43, ix_n (by omega), ix_n (by omega), show d = z + 1 by omega]) dX7_weather_81
            · have c54 : ¬ z < d := fun zz => c54 ((nI_ltI (a := z) (b := d) (by omega) (by omega)).mpr zz)
              refine lv_aload_n hx hb dX7_weather_57 rfl (lv_at hl 0 rfl) ?_
              refine M_get hx hb hts hiX7 hown hK hρ hH 1 (by decide) hf9 (v := .ref (ad 1)) rfl dX7_weather_58 ?_
              refine lv_iload hx hb dX7_weather_61 (lv_at hl 5 rfl) ?_
              refine lv_iload_n hx hb dX7_weather_63 rfl (lv_at hl 3 rfl) ?_
              refine M_iast hx hb hK hρ hH 1 3650 (by decide) d rfl (by omega) dX7_weather_64 (fun H locs hH => ?_)
              obtain ⟨F64, eF64⟩ : ∃ z, z = setA F1 1 d w := ⟨_, rfl⟩
              rw [← eF64] at hH
              refine lv_aload_n hx hb dX7_weather_65 rfl (lv_at hl 0 rfl) ?_
              refine M_get hx hb hts hiX7 hown hK hρ hH 2 (by decide) hf13 (v := .ref (ad 2)) rfl dX7_weather_66 ?_
              refine lv_iload hx hb dX7_weather_69 (lv_at hl 5 rfl) ?_
              refine lv_iload hx hb dX7_weather_71 (lv_at hl 4 rfl) ?_
              refine M_iast hx hb hK hρ hH 2 3650 (by decide) d rfl (by omega) dX7_weather_73 (fun H locs hH => ?_)
              obtain ⟨F73, eF73⟩ : ∃ z, z = setA F64 2 d r0 := ⟨_, rfl⟩
              rw [← eF73] at hH
              refine lv_iinc (v := nI (d + 1)) (lv' := [(5, .int (nI (d + 1))), (0, .ref (ad 0)), (1, .int (nI a)), (2, .int (nI z)), (3, .int w), (4, .int r0)]) hx hb dX7_weather_74 hl (k := 5) rfl (by exact nI_add _ 1) (by decide) rfl (fun ls hl => ?_)
              refine lv_goto (tgt := 51) hx hb dX7_weather_77 (by decide) ?_
              exact ih51 (d + 1) F73 (by omega) (by omega) (by omega) (by rw [eF73, eF64, hF]; exact wfill_s F w r0 hd1) _ _ hH ls (lv_sub hl [1, 2, 3, 4, 5, 0] rfl)
        · refine lv_iconst (v := 0) hx hb dX7_weather_46 (by decide) ?_
          exact x_zret (v := 0) (I, F) hx hb hr hlocks (by decide) hK hH (by simp [sWeather, *]) dX7_weather_47

set_option maxHeartbeats 4000000 in
set_option maxRecDepth 100000 in
theorem c_X7_let (l : Launch) (G : XG) (A : Nat → Prop) (ρ : Nat → Option Nat) (ad : Nat → Nat) (b : XW) (I : Nat → Int32) (F : Nat → Nat → Int32) (hρ : mA ρ ad) (wd rent : Int32) : Met l yX7_let wsX7_let ({ frames := 2, cells := 0, slots := 0, locals := 42 }) (va_Pc [.ref (ad 0), .int wd, .int rent] (xP G A (mw G ρ ad b I F))) (va_Qi (fun (r : Int32) (u : (Nat → Int32) × (Nat → Nat → Int32)) => (r, u) = sLet I F wd rent) (fun u t => xB G A (mw G ρ ad b u.1 u.2) t) A) 0 0 A := by
  refine Met.ofW (cc := cX7_let) (maxL := 3) (ret := (some .boolean)) (by decide) rfl ?_
  intro p e s m args below meth c s₁ B hml hv
  obtain ⟨rfl, hK, hH, hTt⟩ := hv
  have hx := B.exec
  have hb := B.bytes
  have hr := B.returns
  have hts := atoms_spec (ws := wsX7_let) B.pre
  have hown : s.vm.findClass RX7 = some m.cls := findClass_of_methodNamed B.named
  have hlocks := B.notSynchronized
  have hiX7 : ∀ w ∈ wsX70, w ∈ wsX7_let := by decide +kernel
  have hf68 := hts (.fieldLink RX7 68 "ResinWoodsModel" "isLet" "[Z") (by decide +kernel)
  have hf71 := hts (.fieldLink RX7 71 "ResinWoodsModel" "rent" "[I") (by decide +kernel)
  have hf74 := hts (.fieldLink RX7 74 "ResinWoodsModel" "taken" "[I") (by decide +kernel)
  have hf77 := hts (.fieldLink RX7 77 "ResinWoodsModel" "paid" "[I") (by decide +kernel)
  have hl := lv_entry ([.ref (ad 0), .int wd, .int rent]) (n := 3) (Nat.le_of_ble_eq_true rfl)
  rw [lg_entry_eq]
  generalize (lg_sl ([.ref (ad 0), .int wd, .int rent]) ++ List.replicate (3 - (lg_sl ([.ref (ad 0), .int wd, .int rent])).length) Slot.unset).toArray = ls at hl ⊢
  have hl : lv_has ls 3 [(0, .ref (ad 0)), (1, .int wd), (2, .int rent)] := hl
  refine lv_iload_n hx hb dX7_let_0 rfl (lv_at hl 1 rfl) ?_
  refine x_calli (va_runS (As := [.int wd]) (rest := []) ⟨hx, hb, hml, hown, hts⟩ (c_X7_isWood l G A (mw G ρ ad b I F) wd) (va_cwS 1 hts gX7_let_X7_isWood rfl rfl rfl (by decide +kernel) ⟨Nat.le_of_ble_eq_true rfl, Nat.le_of_ble_eq_true rfl⟩) (x_preS hK hH hTt [.int wd]) rfl rfl hl.1 rfl (lv_room (Nat.le_of_ble_eq_true rfl)) dX7_let_1 ⟨Nat.le_of_ble_eq_true rfl, Nat.le_of_ble_eq_true rfl⟩) hH (fun r1 u H locs hp hH => ?_)
  subst hp
  have hH : xH G A s.heap H locs (mw G ρ ad b I F) := hH
  refine lv_if_eq (tgt := 17) hx hb dX7_let_4 (by decide) (fun c4 => ?_) (fun c4 => ?_)
  · refine lv_iconst (v := 0) hx hb dX7_let_17 (by decide) ?_
    exact x_zret (v := 0) (I, F) hx hb hr hlocks (by decide) hK hH (by simp [sLet, *]) dX7_let_18
  · obtain ⟨w, hw0, hw1, rfl⟩ := inI_nat (a := 0) (b := 5) (binI_1.mp c4) (by omega) (by omega)
    refine lv_iload_n hx hb dX7_let_7 rfl (lv_at hl 2 rfl) ?_
    refine lv_iconst (v := 0) hx hb dX7_let_8 (by decide) ?_
    refine lv_bipush (v := 100) hx hb dX7_let_9 (by decide) ?_
    refine x_calli (va_runS (As := [.int rent, .int 0, .int 100]) (rest := []) ⟨hx, hb, hml, hown, hts⟩ (c_X7_in l G A (mw G ρ ad b I F) rent 0 100) (va_cwS 3 hts gX7_let_X7_in rfl rfl rfl (by decide +kernel) ⟨Nat.le_of_ble_eq_true rfl, Nat.le_of_ble_eq_true rfl⟩) (x_preS hK hH hTt [.int rent, .int 0, .int 100]) rfl rfl hl.1 rfl (lv_room (Nat.le_of_ble_eq_true rfl)) dX7_let_11 ⟨Nat.le_of_ble_eq_true rfl, Nat.le_of_ble_eq_true rfl⟩) hH (fun r11 u H locs hp hH => ?_)
    subst hp
    have hH : xH G A s.heap H locs (mw G ρ ad b I F) := hH
    refine lv_if_ne (tgt := 19) hx hb dX7_let_14 (by decide) (fun c14 => ?_) (fun c14 => ?_)
    · refine lv_aload_n hx hb dX7_let_19 rfl (lv_at hl 0 rfl) ?_
      refine M_get hx hb hts hiX7 hown hK hρ hH 22 (by decide) hf68 (v := .ref (ad 22)) rfl dX7_let_20 ?_
      refine lv_iload_n hx hb dX7_let_23 rfl (lv_at hl 1 rfl) ?_
      refine lv_iconst (v := 1) hx hb dX7_let_24 (by decide) ?_
      refine M_zast hx hb hK hρ hH 22 6 (by decide) w rfl (by omega) (by decide) dX7_let_25 (fun H locs hH => ?_)
      obtain ⟨F25, eF25⟩ : ∃ z, z = setA F 22 w 1 := ⟨_, rfl⟩
      rw [← eF25] at hH
      refine lv_aload_n hx hb dX7_let_26 rfl (lv_at hl 0 rfl) ?_
      refine M_get hx hb hts hiX7 hown hK hρ hH 23 (by decide) hf71 (v := .ref (ad 23)) rfl dX7_let_27 ?_
      refine lv_iload_n hx hb dX7_let_30 rfl (lv_at hl 1 rfl) ?_
      refine lv_iload_n hx hb dX7_let_31 rfl (lv_at hl 2 rfl) ?_
      refine M_iast hx hb hK hρ hH 23 6 (by decide) w rfl (by omega) dX7_let_32 (fun H locs hH => ?_)
      obtain ⟨F32, eF32⟩ : ∃ z, z = setA F25 23 w rent := ⟨_, rfl⟩
      rw [← eF32] at hH
      refine lv_aload_n hx hb dX7_let_33 rfl (lv_at hl 0 rfl) ?_
      refine M_get hx hb hts hiX7 hown hK hρ hH 24 (by decide) hf74 (v := .ref (ad 24)) rfl dX7_let_34 ?_
      refine lv_iload_n hx hb dX7_let_37 rfl (lv_at hl 1 rfl) ?_
      refine lv_iconst (v := 0) hx hb dX7_let_38 (by decide) ?_
      refine M_iast hx hb hK hρ hH 24 6 (by decide) w rfl (by omega) dX7_let_39 (fun H locs hH => ?_)
      obtain ⟨F39, eF39⟩ : ∃ z, z = setA F32 24 w 0 := ⟨_, rfl⟩
      rw [← eF39] at hH
      refine lv_aload_n hx hb dX7_let_40 rfl (lv_at hl 0 rfl) ?_
      refine M_get hx hb hts hiX7 hown hK hρ hH 25 (by decide) hf77 (v := .ref (ad 25)) rfl dX7_let_41 ?_
      refine lv_iload_n hx hb dX7_let_44 rfl (lv_at hl 1 rfl) ?_
      refine lv_iconst (v := 0) hx hb dX7_let_45 (by decide) ?_
      refine M_iast hx hb hK hρ hH 25 6 (by decide) w rfl (by omega) dX7_let_46 (fun H locs hH => ?_)
      obtain ⟨F46, eF46⟩ : ∃ z, z = setA F39 25 w 0 := ⟨_, rfl⟩
      rw [← eF46] at hH
      refine lv_iconst (v := 1) hx hb dX7_let_47 (by decide) ?_
      exact x_zret (v := 1) (I, F46) hx hb hr hlocks (by decide) hK hH (by subst eF25 eF32 eF39 eF46; simp [sLet, ix_n (show w < 2 ^ 31 by omega), *]) dX7_let_48
    · refine lv_iconst (v := 0) hx hb dX7_let_17 (by decide) ?_
      exact x_zret (v := 0) (I, F) hx hb hr hlocks (by decide) hK hH (by simp [sLet, *]) dX7_let_18

set_option maxHeartbeats 4000000 in
set_option maxRecDepth 100000 in
theorem c_X7_due (l : Launch) (G : XG) (A : Nat → Prop) (ρ : Nat → Option Nat) (ad : Nat → Nat) (b : XW) (I : Nat → Int32) (F : Nat → Nat → Int32) (hρ : mA ρ ad) (wd : Int32) : Met l yX7_due wsX7_due ({ frames := 2, cells := 0, slots := 0, locals := 42 }) (va_Pc [.ref (ad 0), .int wd] (xP G A (mw G ρ ad b I F))) (va_Qi (fun (r : Int32) (u : (Nat → Int32) × (Nat → Nat → Int32)) => r = sDue F wd ∧ u = (I, F)) (fun u t => xB G A (mw G ρ ad b u.1 u.2) t) A) 0 0 A := by
  refine Met.ofW (cc := cX7_due) (maxL := 2) (ret := (some .int)) (by decide) rfl ?_
  intro p e s m args below meth c s₁ B hml hv
  obtain ⟨rfl, hK, hH, hTt⟩ := hv
  have hx := B.exec
  have hb := B.bytes
  have hr := B.returns
  have hts := atoms_spec (ws := wsX7_due) B.pre
  have hown : s.vm.findClass RX7 = some m.cls := findClass_of_methodNamed B.named
  have hlocks := B.notSynchronized
  have hiX7 : ∀ w ∈ wsX70, w ∈ wsX7_due := by decide +kernel
  have hf68 := hts (.fieldLink RX7 68 "ResinWoodsModel" "isLet" "[Z") (by decide +kernel)
  have hf71 := hts (.fieldLink RX7 71 "ResinWoodsModel" "rent" "[I") (by decide +kernel)
  have hf74 := hts (.fieldLink RX7 74 "ResinWoodsModel" "taken" "[I") (by decide +kernel)
  have hf77 := hts (.fieldLink RX7 77 "ResinWoodsModel" "paid" "[I") (by decide +kernel)
  have hl := lv_entry ([.ref (ad 0), .int wd]) (n := 2) (Nat.le_of_ble_eq_true rfl)
  rw [lg_entry_eq]
  generalize (lg_sl ([.ref (ad 0), .int wd]) ++ List.replicate (2 - (lg_sl ([.ref (ad 0), .int wd])).length) Slot.unset).toArray = ls at hl ⊢
  have hl : lv_has ls 2 [(0, .ref (ad 0)), (1, .int wd)] := hl
  refine lv_iload_n hx hb dX7_due_0 rfl (lv_at hl 1 rfl) ?_
  refine x_calli (va_runS (As := [.int wd]) (rest := []) ⟨hx, hb, hml, hown, hts⟩ (c_X7_isWood l G A (mw G ρ ad b I F) wd) (va_cwS 1 hts gX7_due_X7_isWood rfl rfl rfl (by decide +kernel) ⟨Nat.le_of_ble_eq_true rfl, Nat.le_of_ble_eq_true rfl⟩) (x_preS hK hH hTt [.int wd]) rfl rfl hl.1 rfl (lv_room (Nat.le_of_ble_eq_true rfl)) dX7_due_1 ⟨Nat.le_of_ble_eq_true rfl, Nat.le_of_ble_eq_true rfl⟩) hH (fun r1 u H locs hp hH => ?_)
  subst hp
  have hH : xH G A s.heap H locs (mw G ρ ad b I F) := hH
  refine lv_if_eq (tgt := 46) hx hb dX7_due_4 (by decide) (fun c4 => ?_) (fun c4 => ?_)
  · refine lv_iconst (v := 0) hx hb dX7_due_46 (by decide) ?_
    exact x_iret (v := 0) (I, F) hx hb hr hlocks hK hH (⟨by simp only [sDue]; first | (rw [if_pos c4]; done) | (rw [if_neg c4, ix_n (show w < 2 ^ 31 by omega)]; first | rw [if_pos c13] | rw [if_neg c13]), rfl⟩) dX7_due_47
  · obtain ⟨w, hw0, hw1, rfl⟩ := inI_nat (a := 0) (b := 5) (binI_1.mp c4) (by omega) (by omega)
    refine lv_aload_n hx hb dX7_due_7 rfl (lv_at hl 0 rfl) ?_
    refine M_get hx hb hts hiX7 hown hK hρ hH 22 (by decide) hf68 (v := .ref (ad 22)) rfl dX7_due_8 ?_
    refine lv_iload_n hx hb dX7_due_11 rfl (lv_at hl 1 rfl) ?_
    refine M_zald hx hb hK hρ hH 22 6 (by decide) w rfl (by omega) dX7_due_12 ?_
    refine lv_if_eq (tgt := 46) hx hb dX7_due_13 (by decide) (fun c13 => ?_) (fun c13 => ?_)
    · have c13 : F 22 w = 0 := c13
      refine lv_iconst (v := 0) hx hb dX7_due_46 (by decide) ?_
      exact x_iret (v := 0) (I, F) hx hb hr hlocks hK hH (⟨by simp only [sDue]; first | (rw [if_pos c4]; done) | (rw [if_neg c4, ix_n (show w < 2 ^ 31 by omega)]; first | rw [if_pos c13] | rw [if_neg c13]), rfl⟩) dX7_due_47
    · refine lv_aload_n hx hb dX7_due_16 rfl (lv_at hl 0 rfl) ?_
      refine M_get hx hb hts hiX7 hown hK hρ hH 24 (by decide) hf74 (v := .ref (ad 24)) rfl dX7_due_17 ?_
      refine lv_iload_n hx hb dX7_due_20 rfl (lv_at hl 1 rfl) ?_
      refine M_iald hx hb hK hρ hH 24 6 (by decide) w rfl (by omega) dX7_due_21 ?_
      refine lv_i2l (v := (F 24 w).toInt64) hx hb dX7_due_22 rfl ?_
      refine lv_aload_n hx hb dX7_due_23 rfl (lv_at hl 0 rfl) ?_
      refine M_get hx hb hts hiX7 hown hK hρ hH 23 (by decide) hf71 (v := .ref (ad 23)) rfl dX7_due_24 ?_
      refine lv_iload_n hx hb dX7_due_27 rfl (lv_at hl 1 rfl) ?_
      refine M_iald hx hb hK hρ hH 23 6 (by decide) w rfl (by omega) dX7_due_28 ?_
      refine lv_i2l (v := (F 23 w).toInt64) hx hb dX7_due_29 rfl ?_
      refine lv_lmul hx hb dX7_due_30 ?_
      refine lv_ldc2 (v := 100) hx hb hown (hts (.constantLong RX7 174 100) (by decide +kernel)) dX7_due_31 ?_
      refine lv_ldiv hx hb dX7_due_34 (by decide) ?_
      refine lv_l2i (v := ((((F 24 w).toInt64) * ((F 23 w).toInt64)) / 100).toInt32) hx hb dX7_due_35 rfl ?_
      refine lv_aload_n hx hb dX7_due_36 rfl (lv_at hl 0 rfl) ?_
      refine M_get hx hb hts hiX7 hown hK hρ hH 25 (by decide) hf77 (v := .ref (ad 25)) rfl dX7_due_37 ?_
      refine lv_iload_n hx hb dX7_due_40 rfl (lv_at hl 1 rfl) ?_
      refine M_iald hx hb hK hρ hH 25 6 (by decide) w rfl (by omega) dX7_due_41 ?_
      refine lv_isub hx hb dX7_due_42 ?_
      refine lv_goto (tgt := 47) hx hb dX7_due_43 (by decide) ?_
      exact x_iret (v := (((((F 24 w).toInt64) * ((F 23 w).toInt64)) / 100).toInt32) - (F 25 w)) (I, F) hx hb hr hlocks hK hH (⟨by simp only [sDue]; first | (rw [if_pos c4]; done) | (rw [if_neg c4, ix_n (show w < 2 ^ 31 by omega)]; first | rw [if_pos c13] | rw [if_neg c13]), rfl⟩) dX7_due_47

set_option maxHeartbeats 4000000 in
set_option maxRecDepth 100000 in
theorem c_X7_from (l : Launch) (G : XG) (A : Nat → Prop) (ρ : Nat → Option Nat) (ad : Nat → Nat) (b : XW) (I : Nat → Int32) (F : Nat → Nat → Int32) (hρ : mA ρ ad) (nT : Nat) (hn : I 3 = nI nT) (hT : nT ≤ 60) (nB : Nat) (hnB : I 16 = nI nB) (hB : nB ≤ 200) (b0 t : Int32) : Met l yX7_from wsX7_from ({ frames := 2, cells := 0, slots := 0, locals := 43 }) (va_Pc [.ref (ad 0), .int b0, .int t] (xP G A (mw G ρ ad b I F))) (va_Qi (fun (r : Int32) (u : (Nat → Int32) × (Nat → Nat → Int32)) => r = sFrom I F b0 t ∧ u = (I, F)) (fun u t => xB G A (mw G ρ ad b u.1 u.2) t) A) 0 0 A := by
  refine Met.ofW (cc := cX7_from) (maxL := 3) (ret := (some .int)) (by decide) rfl ?_
  intro p e s m args below meth c s₁ B hml hv
  obtain ⟨rfl, hK, hH, hTt⟩ := hv
  have hx := B.exec
  have hb := B.bytes
  have hr := B.returns
  have hts := atoms_spec (ws := wsX7_from) B.pre
  have hown : s.vm.findClass RX7 = some m.cls := findClass_of_methodNamed B.named
  have hlocks := B.notSynchronized
  have hiX7 : ∀ w ∈ wsX70, w ∈ wsX7_from := by decide +kernel
  have hf59 := hts (.fieldLink RX7 59 "ResinWoodsModel" "barrelFrom" "[I") (by decide +kernel)
  have hl := lv_entry ([.ref (ad 0), .int b0, .int t]) (n := 3) (Nat.le_of_ble_eq_true rfl)
  rw [lg_entry_eq]
  generalize (lg_sl ([.ref (ad 0), .int b0, .int t]) ++ List.replicate (3 - (lg_sl ([.ref (ad 0), .int b0, .int t])).length) Slot.unset).toArray = ls at hl ⊢
  have hl : lv_has ls 3 [(0, .ref (ad 0)), (1, .int b0), (2, .int t)] := hl
  refine lv_aload_n hx hb dX7_from_0 rfl (lv_at hl 0 rfl) ?_
  refine lv_iload_n hx hb dX7_from_1 rfl (lv_at hl 1 rfl) ?_
  refine x_calli (va_runV (As := [.int b0]) (rest := []) ⟨hx, hb, hml, hown, hts⟩ (c_X7_isBarrel l G A ρ ad b I F hρ b0) (cwV 1 hts gX7_from_X7_isBarrel rfl rfl rfl (by decide +kernel) ⟨Nat.le_of_ble_eq_true rfl, Nat.le_of_ble_eq_true rfl⟩) (x_preV hK hH hTt (mw_ob hρ) rfl [.int b0]) rfl rfl hl.1 rfl (lv_room (Nat.le_of_ble_eq_true rfl)) dX7_from_2 ⟨Nat.le_of_ble_eq_true rfl, Nat.le_of_ble_eq_true rfl⟩) hH (fun r2 u H locs hp hH => ?_)
  obtain ⟨rfl, rfl⟩ := hp
  have hH : xH G A s.heap H locs (mw G ρ ad b I F) := hH
  refine lv_if_eq (tgt := 30) hx hb dX7_from_5 (by decide) (fun c5 => ?_) (fun c5 => ?_)
  · refine lv_iconst (v := (-1)) hx hb dX7_from_30 (by decide) ?_
    exact x_iret (v := (-1)) (I, F) hx hb hr hlocks hK hH (⟨by simp only [sFrom]; first | (rw [if_pos c5]; done) | (rw [if_neg c5, if_pos c13]; done) | (rw [if_neg c5, if_neg c13, ix_n (show b1 < 2 ^ 31 by omega), ix_n (show t1 < 2 ^ 31 by omega)]), rfl⟩) dX7_from_31
  · obtain ⟨b1, hb1, rfl⟩ := inI_pred (n := nB) (by rw [← hnB]; exact binI_1.mp c5) (by omega)
    refine lv_aload_n hx hb dX7_from_8 rfl (lv_at hl 0 rfl) ?_
    refine lv_iload_n hx hb dX7_from_9 rfl (lv_at hl 2 rfl) ?_
    refine x_calli (va_runV (As := [.int t]) (rest := []) ⟨hx, hb, hml, hown, hts⟩ (c_X7_isTree l G A ρ ad b I F hρ t) (cwV 1 hts gX7_from_X7_isTree rfl rfl rfl (by decide +kernel) ⟨Nat.le_of_ble_eq_true rfl, Nat.le_of_ble_eq_true rfl⟩) (x_preV hK hH hTt (mw_ob hρ) rfl [.int t]) rfl rfl hl.1 rfl (lv_room (Nat.le_of_ble_eq_true rfl)) dX7_from_10 ⟨Nat.le_of_ble_eq_true rfl, Nat.le_of_ble_eq_true rfl⟩) hH (fun r10 u H locs hp hH => ?_)
    obtain ⟨rfl, rfl⟩ := hp
    have hH : xH G A s.heap H locs (mw G ρ ad b I F) := hH
    refine lv_if_eq (tgt := 30) hx hb dX7_from_13 (by decide) (fun c13 => ?_) (fun c13 => ?_)
    · refine lv_iconst (v := (-1)) hx hb dX7_from_30 (by decide) ?_
      exact x_iret (v := (-1)) (I, F) hx hb hr hlocks hK hH (⟨by simp only [sFrom]; first | (rw [if_pos c5]; done) | (rw [if_neg c5, if_pos c13]; done) | (rw [if_neg c5, if_neg c13, ix_n (show b1 < 2 ^ 31 by omega), ix_n (show t1 < 2 ^ 31 by omega)]), rfl⟩) dX7_from_31
    · obtain ⟨t1, ht1, rfl⟩ := inI_pred (n := nT) (by rw [← hn]; exact binI_1.mp c13) (by omega)
      refine lv_aload_n hx hb dX7_from_16 rfl (lv_at hl 0 rfl) ?_
      refine M_get hx hb hts hiX7 hown hK hρ hH 19 (by decide) hf59 (v := .ref (ad 19)) rfl dX7_from_17 ?_
      refine lv_bipush (v := 60) hx hb dX7_from_20 (by decide) ?_
      refine lv_iload_n hx hb dX7_from_22 rfl (lv_at hl 1 rfl) ?_
      refine N_imul hx hb 60 b1 rfl rfl dX7_from_23 ?_
      refine lv_iload_n hx hb dX7_from_24 rfl (lv_at hl 2 rfl) ?_
      refine N_iadd hx hb (60 * b1) t1 rfl rfl dX7_from_25 ?_
      refine M_iald hx hb hK hρ hH 19 12000 (by decide) ((60 * b1) + t1) rfl (by omega) dX7_from_26 ?_
      refine lv_goto (tgt := 31) hx hb dX7_from_27 (by decide) ?_
      exact x_iret (v := F 19 ((60 * b1) + t1)) (I, F) hx hb hr hlocks hK hH (⟨by simp only [sFrom]; first | (rw [if_pos c5]; done) | (rw [if_neg c5, if_pos c13]; done) | (rw [if_neg c5, if_neg c13, ix_n (show b1 < 2 ^ 31 by omega), ix_n (show t1 < 2 ^ 31 by omega)]), rfl⟩) dX7_from_31
