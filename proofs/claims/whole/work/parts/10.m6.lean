
theorem sRuns_F (I : Nat → Int32) (F : Nat → Nat → Int32) (now f : Nat) {k : Nat} (h : k ≠ 14) (h2 : k ≠ 15) : (sRuns I F now f).2 k = F k := by
  show setA (setA F 14 _ _) 15 _ _ k = F k
  rw [setA_n _ _ _ h2, setA_n _ _ _ h]
theorem sRuns_I (I : Nat → Int32) (F : Nat → Nat → Int32) (now f : Nat) {k : Nat} (h : k ≠ 26) (h2 : k ≠ 27) : (sRuns I F now f).1 k = I k := by
  show va_up (va_up I 27 _) 26 _ k = I k
  rw [up_n _ _ h, up_n _ _ h2]
theorem sWash_F (I : Nat → Int32) (F : Nat → Nat → Int32) (now f : Nat) {k : Nat} (h : k ≠ 14) : (sWash I F now f).2 k = F k := washF_ne F f 4 _ h
theorem sWash_I (I : Nat → Int32) (F : Nat → Nat → Int32) (now f : Nat) {k : Nat} (h : k ≠ 28) : (sWash I F now f).1 k = I k := up_n _ _ h
theorem gradI_nat {F : Nat → Nat → Int32} {f now oy : Nat} (hn : now ≤ 3650) (h : F 13 f = nI oy) (ho : oy ≤ now / 365) : ∃ gr, gr < 4 ∧ gradI F f (nI now) = nI gr := by
  unfold gradI
  rw [h, show (nI now / 365 : Int32) = nI (now / 365) from pk_div (by omega) (by decide) (by decide), pk_sub ho]
  by_cases q : now / 365 - oy ≤ 3
  · exact ⟨now / 365 - oy, by omega, if_pos ((nI_leI (by omega) (by decide)).mpr q)⟩
  · exact ⟨3, by omega, if_neg (fun z => q ((nI_leI (b := 3) (by omega) (by decide)).mp z))⟩
def runT (now : Nat) (I : Nat → Int32) (F : Nat → Nat → Int32) (t : Nat) : Nat → MS
  | 0 => (I, F)
  | i + 1 => sRuns (runT now I F t i).1 (runT now I F t i).2 now (3 * t + i)
def runA (now : Nat) (I : Nat → Int32) (F : Nat → Nat → Int32) : Nat → MS
  | 0 => (I, F)
  | t + 1 => if (runA now I F t).2 8 t = 0 then runT now (runA now I F t).1 (runA now I F t).2 t (ix ((runA now I F t).2 9 t)) else runA now I F t
def wshT (now : Nat) (I : Nat → Int32) (F : Nat → Nat → Int32) (t : Nat) : Nat → MS
  | 0 => (I, F)
  | i + 1 => sWash (wshT now I F t i).1 (wshT now I F t i).2 now (3 * t + i)
def wshA (now : Nat) (I : Nat → Int32) (F : Nat → Nat → Int32) : Nat → MS
  | 0 => (I, F)
  | t + 1 => wshT now (wshA now I F t).1 (wshA now I F t).2 t (ix ((wshA now I F t).2 9 t))
def dayS (nT now : Nat) (u : MS) : MS := (va_up (wshA now (runA now u.1 u.2 nT).1 (runA now u.1 u.2 nT).2 nT).1 0 (nI (now + 1)), (wshA now (runA now u.1 u.2 nT).1 (runA now u.1 u.2 nT).2 nT).2)
def goS (nT : Nat) (u : MS) : Nat → MS
  | 0 => u
  | k + 1 => if ix ((goS nT u k).1 0) < 3650 then dayS nT (ix ((goS nT u k).1 0)) (goS nT u k) else goS nT u k
theorem goS_stop {nT : Nat} {u : MS} {k : Nat} (h : ¬ ix ((goS nT u k).1 0) < 3650) : ∀ j, goS nT u (k + j) = goS nT u k
  | 0 => rfl
  | j + 1 => by
    show (if ix ((goS nT u (k + j)).1 0) < 3650 then _ else goS nT u (k + j)) = _
    rw [goS_stop h j, if_neg h]
def sGo (I : Nat → Int32) (F : Nat → Nat → Int32) (nT : Nat) (n : Int32) : Int32 × MS := if binI n 0 400 = 0 then (-1, I, F) else ((goS nT (I, F) (ix n)).1 0, goS nT (I, F) (ix n))


theorem runA_s {now : Nat} {I I2 I3 : Nat → Int32} {F F2 F3 : Nat → Nat → Int32} {t i o : Nat} (hA : (I2, F2) = runA now I F t) (hT : (I3, F3) = runT now I2 F2 t i) (ho : F2 9 t = nI o) (ho3 : o ≤ 3) (hb : i = 0 ∨ F2 8 t = 0) (hi : (F2 8 t = 0 → i = o)) : (I3, F3) = runA now I F (t + 1) := by
  simp only [runA]
  rw [← hA]
  simp only []
  by_cases q : F2 8 t = 0
  · rw [if_pos q, ho, ix_n (by omega), ← hi q]
    exact hT
  · rw [if_neg q]
    rcases hb with rfl | h
    · exact hT
    · exact absurd h q

set_option maxHeartbeats 4000000 in
set_option maxRecDepth 100000 in
theorem c_X7_go (l : Launch) (G : XG) (A : Nat → Prop) (ρ : Nat → Option Nat) (ad : Nat → Nat) (b : XW) (I : Nat → Int32) (F : Nat → Nat → Int32) (hρ : mA ρ ad) (nT : Nat) (hn : I 3 = nI nT) (hT : nT ≤ 60) (now : Nat) (hw : I 0 = nI now) (hN : now ≤ 3650) (op : Nat → Nat) (hop : ∀ t, t < nT → F 9 t = nI (op t) ∧ op t ≤ 3) (hoy : ∀ t, t < nT → ∀ i, i < op t → ∃ oy, F 13 (3 * t + i) = nI oy ∧ oy ≤ now / 365) (n0 : Int32) : Met l yX7_go wsX7_go ({ frames := 2, cells := 0, slots := 0, locals := 47 }) (va_Pc [.ref (ad 0), .int n0] (xP G A (mw G ρ ad b I F))) (va_Qi (fun (r : Int32) (u : (Nat → Int32) × (Nat → Nat → Int32)) => (r, u) = sGo I F nT n0) (fun u t => xB G A (mw G ρ ad b u.1 u.2) t) A) 0 0 A := by
  refine Met.ofW (cc := cX7_go) (maxL := 5) (ret := (some .int)) (by decide) rfl ?_
  intro p e s m args below meth c s₁ B hml hv
  obtain ⟨rfl, hK, hH, hTt⟩ := hv
  have hx := B.exec
  have hb := B.bytes
  have hr := B.returns
  have hts := atoms_spec (ws := wsX7_go) B.pre
  have hown : s.vm.findClass RX7 = some m.cls := findClass_of_methodNamed B.named
  have hlocks := B.notSynchronized
  have hiX7 : ∀ w ∈ wsX70, w ∈ wsX7_go := by decide +kernel
  have hf28 := hts (.fieldLink RX7 28 "ResinWoodsModel" "isBurnt" "[Z") (by decide +kernel)
  have hf32 := hts (.fieldLink RX7 32 "ResinWoodsModel" "opened" "[I") (by decide +kernel)
  have hf92 := hts (.fieldLink RX7 92 "ResinWoodsModel" "trees" "I") (by decide +kernel)
  have hf100 := hts (.fieldLink RX7 100 "ResinWoodsModel" "now" "I") (by decide +kernel)
  have hl := lv_entry ([.ref (ad 0), .int n0]) (n := 5) (Nat.le_of_ble_eq_true rfl)
  rw [lg_entry_eq]
  generalize (lg_sl ([.ref (ad 0), .int n0]) ++ List.replicate (5 - (lg_sl ([.ref (ad 0), .int n0])).length) Slot.unset).toArray = ls at hl ⊢
  have hl : lv_has ls 5 [(0, .ref (ad 0)), (1, .int n0)] := hl
  refine lv_iload_n hx hb dX7_go_0 rfl (lv_at hl 1 rfl) ?_
  refine lv_iconst (v := 0) hx hb dX7_go_1 (by decide) ?_
  refine lv_sipush (v := 400) hx hb dX7_go_2 (by decide) ?_
  refine x_calli (va_runS (As := [.int n0, .int 0, .int 400]) (rest := []) ⟨hx, hb, hml, hown, hts⟩ (c_X7_in l G A (mw G ρ ad b I F) n0 0 400) (va_cwS 3 hts gX7_go_X7_in rfl rfl rfl (by decide +kernel) ⟨Nat.le_of_ble_eq_true rfl, Nat.le_of_ble_eq_true rfl⟩) (x_preS hK hH hTt [.int n0, .int 0, .int 400]) rfl rfl hl.1 rfl (lv_room (Nat.le_of_ble_eq_true rfl)) dX7_go_5 ⟨Nat.le_of_ble_eq_true rfl, Nat.le_of_ble_eq_true rfl⟩) hH (fun r5 u H locs hp hH => ?_)
  subst hp
  have hH : xH G A s.heap H locs (mw G ρ ad b I F) := hH
  refine lv_if_ne (tgt := 13) hx hb dX7_go_8 (by decide) (fun c8 => ?_) (fun c8 => ?_)
  · obtain ⟨n, hn0, hn1, rfl⟩ := inI_nat (a := 0) (b := 400) (binI_1.mp c8) (by omega) (by omega)
    refine lv_iconst (v := 0) hx hb dX7_go_13 (by decide) ?_
    refine lv_istore_n (lv' := [(2, .int 0), (0, .ref (ad 0)), (1, .int (nI n))]) hx hb dX7_go_14 rfl hl (by decide) rfl (fun ls hl => ?_)
    suffices loop15 : ∀ (k15 : Nat) (k : Nat) (now1 : Nat) (I1 : Nat → Int32) (F1 : Nat → Nat → Int32), (n < k + k15) → (k ≤ n) → (now ≤ now1) → (now1 ≤ 3650) → ((I1, F1) = goS nT (I, F) k) → (∀ q, q ≠ 14 → q ≠ 15 → F1 q = F q) → (∀ q, q ≠ 0 → q ≠ 26 → q ≠ 27 → q ≠ 28 → I1 q = I q) → (I1 0 = nI now1) → ∀ (H : Heap) (locs : List Loc), xH G A s.heap H locs (mw G ρ ad b I1 F1) → ∀ (ls : Array Slot), lv_has ls 5 [(0, .ref (ad 0)), (1, .int (nI n)), (2, .int (nI k))] → W p l e (headSpec wsX7_go _).room s m _ below meth c H locs 0 0 (MQ below _ _ s 0 0 A) (F0 m 15 ls []) from
      loop15 (n + 1) 0 now I F (by omega) (by omega) (by omega) (by omega) (rfl) (fun _ _ _ => rfl) (fun _ _ _ _ _ => rfl) (hw) _ _ hH ls (lv_sub hl [1, 2, 0] rfl)
    intro k15
    induction k15 with
    | zero =>
      intro k now1 I1 F1 hfuel hk hn1 hn2 hS fF1 fI1 zI1 H locs hH ls hl
      exact absurd hfuel (by omega)
    | succ k15 ih15 =>
      intro k now1 I1 F1 hfuel hk hn1 hn2 hS fF1 fI1 zI1 H locs hH ls hl
      have yI1 : I1 3 = nI nT := by rw [fI1 3 (by decide) (by decide) (by decide) (by decide)]; exact hn
      refine lv_iload_n hx hb dX7_go_15 rfl (lv_at hl 2 rfl) ?_
      refine lv_iload_n hx hb dX7_go_16 rfl (lv_at hl 1 rfl) ?_
      refine lv_icmp_ge (tgt := 147) hx hb dX7_go_17 (by decide) (fun c17 => ?_) (fun c17 => ?_)
      · have c17 : n ≤ k := (nI_leI (a := n) (b := k) (by omega) (by omega)).mp c17
        refine lv_aload_n hx hb dX7_go_147 rfl (lv_at hl 0 rfl) ?_
        refine M_get hx hb hts hiX7 hown hK hρ hH 0 (by decide) hf100 (v := .int (nI now1)) (congrArg (fun z => some (Value.int z)) zI1) dX7_go_148 ?_
        exact x_iret (v := nI now1) (I1, F1) hx hb hr hlocks hK hH (by simp only [sGo]; rw [if_neg c8, ix_n (show n < 2 ^ 31 by omega)]; first | (rw [show n = k by omega, ← hS]; show (nI now1, I1, F1) = (I1 0, I1, F1); rw [zI1]; done) | (have hk9 : ¬ ix ((goS nT (I, F) k).1 0) < 3650 := (by rw [← hS]; show ¬ ix (I1 0) < 3650; rw [zI1, ix_n (by omega)]; exact Nat.not_lt.mpr c27); rw [show n = k + (n - k) by omega, goS_stop hk9, ← hS]; show (nI now1, I1, F1) = (I1 0, I1, F1); rw [zI1])) dX7_go_151
      · have c17 : ¬ n ≤ k := fun zz => c17 ((nI_leI (a := n) (b := k) (by omega) (by omega)).mpr zz)
        refine lv_aload_n hx hb dX7_go_20 rfl (lv_at hl 0 rfl) ?_
        refine M_get hx hb hts hiX7 hown hK hρ hH 0 (by decide) hf100 (v := .int (nI now1)) (congrArg (fun z => some (Value.int z)) zI1) dX7_go_21 ?_
        refine lv_sipush (v := 3650) hx hb dX7_go_24 (by decide) ?_
        refine lv_icmp_ge (tgt := 147) hx hb dX7_go_27 (by decide) (fun c27 => ?_) (fun c27 => ?_)
        · have c27 : 3650 ≤ now1 := (nI_leI (a := 3650) (b := now1) (by omega) (by omega)).mp c27
          refine lv_aload_n hx hb dX7_go_147 rfl (lv_at hl 0 rfl) ?_
          refine M_get hx hb hts hiX7 hown hK hρ hH 0 (by decide) hf100 (v := .int (nI now1)) (congrArg (fun z => some (Value.int z)) zI1) dX7_go_148 ?_
          exact x_iret (v := nI now1) (I1, F1) hx hb hr hlocks hK hH (by simp only [sGo]; rw [if_neg c8, ix_n (show n < 2 ^ 31 by omega)]; first | (rw [show n = k by omega, ← hS]; show (nI now1, I1, F1) = (I1 0, I1, F1); rw [zI1]; done) | (have hk9 : ¬ ix ((goS nT (I, F) k).1 0) < 3650 := (by rw [← hS]; show ¬ ix (I1 0) < 3650; rw [zI1, ix_n (by omega)]; exact Nat.not_lt.mpr c27); rw [show n = k + (n - k) by omega, goS_stop hk9, ← hS]; show (nI now1, I1, F1) = (I1 0, I1, F1); rw [zI1])) dX7_go_151
        · have c27 : ¬ 3650 ≤ now1 := fun zz => c27 ((nI_leI (a := 3650) (b := now1) (by omega) (by omega)).mpr zz)
          refine lv_iconst (v := 0) hx hb dX7_go_30 (by decide) ?_
          refine lv_istore_n (lv' := [(3, .int 0), (0, .ref (ad 0)), (1, .int (nI n)), (2, .int (nI k))]) hx hb dX7_go_31 rfl hl (by decide) rfl (fun ls hl => ?_)
          suffices loop32 : ∀ (k32 : Nat) (t : Nat) (I2 : Nat → Int32) (F2 : Nat → Nat → Int32), (nT < t + k32) → (t ≤ nT) → ((I2, F2) = runA now1 I1 F1 t) → (∀ q, q ≠ 14 → q ≠ 15 → F2 q = F q) → (∀ q, q ≠ 0 → q ≠ 26 → q ≠ 27 → q ≠ 28 → I2 q = I q) → (I2 0 = nI now1) → ∀ (H : Heap) (locs : List Loc), xH G A s.heap H locs (mw G ρ ad b I2 F2) → ∀ (ls : Array Slot), lv_has ls 5 [(0, .ref (ad 0)), (1, .int (nI n)), (2, .int (nI k)), (3, .int (nI t))] → W p l e (headSpec wsX7_go _).room s m _ below meth c H locs 0 0 (MQ below _ _ s 0 0 A) (F0 m 32 ls []) from
            loop32 (nT + 1) 0 I1 F1 (by omega) (by omega) (rfl) (fF1) (fI1) (zI1) _ _ hH ls (lv_sub hl [1, 2, 3, 0] rfl)
          intro k32
          induction k32 with
          | zero =>
            intro t I2 F2 hfuel ht hA fF2 fI2 zI2 H locs hH ls hl
            exact absurd hfuel (by omega)
          | succ k32 ih32 =>
            intro t I2 F2 hfuel ht hA fF2 fI2 zI2 H locs hH ls hl
            have yI2 : I2 3 = nI nT := by rw [fI2 3 (by decide) (by decide) (by decide) (by decide)]; exact hn
            refine lv_iload_n hx hb dX7_go_32 rfl (lv_at hl 3 rfl) ?_
            refine lv_aload_n hx hb dX7_go_33 rfl (lv_at hl 0 rfl) ?_
            refine M_get hx hb hts hiX7 hown hK hρ hH 3 (by decide) hf92 (v := .int (nI nT)) (congrArg (fun z => some (Value.int z)) yI2) dX7_go_34 ?_
            refine lv_icmp_ge (tgt := 85) hx hb dX7_go_37 (by decide) (fun c37 => ?_) (fun c37 => ?_)
            · have c37 : nT ≤ t := (nI_leI (a := nT) (b := t) (by omega) (by omega)).mp c37
              refine lv_iconst (v := 0) hx hb dX7_go_85 (by decide) ?_
              refine lv_istore_n (lv' := [(3, .int 0), (0, .ref (ad 0)), (1, .int (nI n)), (2, .int (nI k))]) hx hb dX7_go_86 rfl hl (by decide) rfl (fun ls hl => ?_)
              suffices loop87 : ∀ (k87 : Nat) (t2 : Nat) (I4 : Nat → Int32) (F4 : Nat → Nat → Int32), (nT < t2 + k87) → (t2 ≤ nT) → ((I4, F4) = wshA now1 I2 F2 t2) → (∀ q, q ≠ 14 → q ≠ 15 → F4 q = F q) → (∀ q, q ≠ 0 → q ≠ 26 → q ≠ 27 → q ≠ 28 → I4 q = I q) → (I4 0 = nI now1) → ∀ (H : Heap) (locs : List Loc), xH G A s.heap H locs (mw G ρ ad b I4 F4) → ∀ (ls : Array Slot), lv_has ls 5 [(0, .ref (ad 0)), (1, .int (nI n)), (2, .int (nI k)), (3, .int (nI t2))] → W p l e (headSpec wsX7_go _).room s m _ below meth c H locs 0 0 (MQ below _ _ s 0 0 A) (F0 m 87 ls []) from
                loop87 (nT + 1) 0 I2 F2 (by omega) (by omega) (rfl) (fF2) (fI2) (zI2) _ _ hH ls (lv_sub hl [1, 2, 3, 0] rfl)
              intro k87
              induction k87 with
              | zero =>
                intro t2 I4 F4 hfuel ht2 hW fF4 fI4 zI4 H locs hH ls hl
                exact absurd hfuel (by omega)
              | succ k87 ih87 =>
                intro t2 I4 F4 hfuel ht2 hW fF4 fI4 zI4 H locs hH ls hl
                have yI4 : I4 3 = nI nT := by rw [fI4 3 (by decide) (by decide) (by decide) (by decide)]; exact hn
                refine lv_iload_n hx hb dX7_go_87 rfl (lv_at hl 3 rfl) ?_
                refine lv_aload_n hx hb dX7_go_88 rfl (lv_at hl 0 rfl) ?_
                refine M_get hx hb hts hiX7 hown hK hρ hH 3 (by decide) hf92 (v := .int (nI nT)) (congrArg (fun z => some (Value.int z)) yI4) dX7_go_89 ?_
                refine lv_icmp_ge (tgt := 131) hx hb dX7_go_92 (by decide) (fun c92 => ?_) (fun c92 => ?_)
                · have c92 : nT ≤ t2 := (nI_leI (a := nT) (b := t2) (by omega) (by omega)).mp c92
                  refine lv_aload_n hx hb dX7_go_131 rfl (lv_at hl 0 rfl) ?_
                  refine lv_dup hx hb dX7_go_132 rfl ?_
                  refine M_get hx hb hts hiX7 hown hK hρ hH 0 (by decide) hf100 (v := .int (nI now1)) (congrArg (fun z => some (Value.int z)) zI4) dX7_go_133 ?_
                  refine lv_iconst (v := 1) hx hb dX7_go_136 (by decide) ?_
                  refine N_iadd hx hb now1 1 rfl rfl dX7_go_137 ?_
                  refine M_put hx hb hts hiX7 hown hK hρ hH 0 (by decide) hf100 rfl (by decide +kernel) rfl dX7_go_138 (fun H locs hH => ?_)
                  obtain ⟨I138, eI138⟩ : ∃ z, z = va_up I4 0 (nI (now1 + 1)) := ⟨_, rfl⟩
                  rw [← eI138] at hH
                  refine lv_iinc (v := nI (k + 1)) (lv' := [(2, .int (nI (k + 1))), (0, .ref (ad 0)), (1, .int (nI n)), (3, .int (nI t2))]) hx hb dX7_go_141 hl (k := 2) rfl (by exact nI_add _ 1) (by decide) rfl (fun ls hl => ?_)
                  refine lv_goto (tgt := 15) hx hb dX7_go_144 (by decide) ?_
                  exact ih15 (k + 1) (now1 + 1) I138 F4 (by omega) (by omega) (by omega) (by omega) (by simp only [goS]; rw [← hS]; simp only []; rw [zI1, ix_n (by omega), if_pos (by omega)]; simp only [dayS]; rw [show nT = t by omega, ← hA, show t = t2 by omega, ← hW, eI138]) (fF4) (by intro q a b c d; rw [eI138, up_n _ _ a]; exact fI4 q a b c d) (by rw [eI138]; exact up_k _ _ _) _ _ hH ls (lv_sub hl [1, 2, 0] rfl)
                · have c92 : ¬ nT ≤ t2 := fun zz => c92 ((nI_leI (a := nT) (b := t2) (by omega) (by omega)).mpr zz)
                  refine lv_iconst (v := 0) hx hb dX7_go_95 (by decide) ?_
                  refine lv_istore (lv' := [(4, .int 0), (0, .ref (ad 0)), (1, .int (nI n)), (2, .int (nI k)), (3, .int (nI t2))]) hx hb dX7_go_96 hl (by decide) rfl (fun ls hl => ?_)
                  suffices loop98 : ∀ (k98 : Nat) (i2 : Nat) (I5 : Nat → Int32) (F5 : Nat → Nat → Int32), (3 < i2 + k98) → (i2 ≤ op t2) → (op t2 ≤ 3) → ((I5, F5) = wshT now1 I4 F4 t2 i2) → (∀ q, q ≠ 14 → q ≠ 15 → F5 q = F q) → (∀ q, q ≠ 0 → q ≠ 26 → q ≠ 27 → q ≠ 28 → I5 q = I q) → (I5 0 = nI now1) → ∀ (H : Heap) (locs : List Loc), xH G A s.heap H locs (mw G ρ ad b I5 F5) → ∀ (ls : Array Slot), lv_has ls 5 [(0, .ref (ad 0)), (1, .int (nI n)), (2, .int (nI k)), (3, .int (nI t2)), (4, .int (nI i2))] → W p l e (headSpec wsX7_go _).room s m _ below meth c H locs 0 0 (MQ below _ _ s 0 0 A) (F0 m 98 ls []) from
                    loop98 4 0 I4 F4 (by omega) (by omega) ((hop t2 (by omega)).2) (rfl) (fF4) (fI4) (zI4) _ _ hH ls (lv_sub hl [1, 2, 3, 4, 0] rfl)
                  intro k98
                  induction k98 with
                  | zero =>
                    intro i2 I5 F5 hfuel hi2 hi4 hT5 fF5 fI5 zI5 H locs hH ls hl
                    exact absurd hfuel (by omega)
                  | succ k98 ih98 =>
                    intro i2 I5 F5 hfuel hi2 hi4 hT5 fF5 fI5 zI5 H locs hH ls hl
                    refine lv_iload hx hb dX7_go_98 (lv_at hl 4 rfl) ?_
                    refine lv_aload_n hx hb dX7_go_100 rfl (lv_at hl 0 rfl) ?_
                    refine M_get hx hb hts hiX7 hown hK hρ hH 9 (by decide) hf32 (v := .ref (ad 9)) rfl dX7_go_101 ?_
                    refine lv_iload_n hx hb dX7_go_104 rfl (lv_at hl 3 rfl) ?_
                    refine M_iald hx hb hK hρ hH 9 60 (by decide) t2 rfl (by omega) dX7_go_105 ?_
                    refine lv_topi (fun w105 ew105 => ?_)
                    rw [show F5 9 t2 = nI (op t2) from (congrFun (fF5 9 (by decide) (by decide)) t2).trans (hop t2 (by omega)).1] at ew105
                    subst ew105
                    refine lv_icmp_ge (tgt := 125) hx hb dX7_go_106 (by decide) (fun c106 => ?_) (fun c106 => ?_)
                    · have c106 : (op t2) ≤ i2 := (nI_leI (a := (op t2)) (b := i2) (by omega) (by omega)).mp c106
                      refine lv_iinc (v := nI (t2 + 1)) (lv' := [(3, .int (nI (t2 + 1))), (0, .ref (ad 0)), (1, .int (nI n)), (2, .int (nI k)), (4, .int (nI i2))]) hx hb dX7_go_125 hl (k := 3) rfl (by exact nI_add _ 1) (by decide) rfl (fun ls hl => ?_)
                      refine lv_goto (tgt := 87) hx hb dX7_go_128 (by decide) ?_
                      exact ih87 (t2 + 1) I5 F5 (by omega) (by omega) (by simp only [wshA]; rw [← hW]; simp only []; rw [show F4 9 t2 = nI (op t2) from (congrFun (fF4 9 (by decide) (by decide)) t2).trans (hop t2 (by omega)).1, ix_n (by have := (hop t2 (by omega)).2; omega), show op t2 = i2 by omega]; exact hT5) (fF5) (fI5) (zI5) _ _ hH ls (lv_sub hl [1, 2, 3, 0] rfl)
                    · have c106 : ¬ (op t2) ≤ i2 := fun zz => c106 ((nI_leI (a := (op t2)) (b := i2) (by omega) (by omega)).mpr zz)
                      have hop3 := (hop t2 (by omega)).2
                      refine lv_aload_n hx hb dX7_go_109 rfl (lv_at hl 0 rfl) ?_
                      refine lv_iconst (v := 3) hx hb dX7_go_110 (by decide) ?_
                      refine lv_iload_n hx hb dX7_go_111 rfl (lv_at hl 3 rfl) ?_
                      refine N_imul hx hb 3 t2 rfl rfl dX7_go_112 ?_
                      refine lv_iload hx hb dX7_go_113 (lv_at hl 4 rfl) ?_
                      refine N_iadd hx hb (3 * t2) i2 rfl rfl dX7_go_115 ?_
                      refine x_callv (va_runV (As := [.int (nI ((3 * t2) + i2))]) (rest := []) ⟨hx, hb, hml, hown, hts⟩ (c_X7_washes l G A ρ ad b I5 F5 hρ now1 zI5 (by omega) (3 * t2 + i2) (by omega)) (cwV 1 hts gX7_go_X7_washes rfl rfl rfl (by decide +kernel) ⟨Nat.le_of_ble_eq_true rfl, Nat.le_of_ble_eq_true rfl⟩) (x_preV hK hH hTt (mw_ob hρ) rfl [.int (nI ((3 * t2) + i2))]) rfl rfl hl.1 rfl (lv_room (Nat.le_of_ble_eq_true rfl)) dX7_go_116 ⟨Nat.le_of_ble_eq_true rfl, Nat.le_of_ble_eq_true rfl⟩) hH (fun u H locs hp hH => ?_)
                      obtain ⟨I116, F116⟩ := u
                      have e116 := hp
                      have hH : xH G A s.heap H locs (mw G ρ ad b I116 F116) := hH
                      refine lv_iinc (v := nI (i2 + 1)) (lv' := [(4, .int (nI (i2 + 1))), (0, .ref (ad 0)), (1, .int (nI n)), (2, .int (nI k)), (3, .int (nI t2))]) hx hb dX7_go_119 hl (k := 4) rfl (by exact nI_add _ 1) (by decide) rfl (fun ls hl => ?_)
                      refine lv_goto (tgt := 98) hx hb dX7_go_122 (by decide) ?_
                      exact ih98 (i2 + 1) I116 F116 (by omega) (by omega) (hi4) (by simp only [wshT]; rw [← hT5]; exact e116) (by intro q a b; rw [show F116 = (sWash I5 F5 now1 (3 * t2 + i2)).2 from congrArg Prod.snd e116, sWash_F _ _ _ _ a]; exact fF5 q a b) (by intro q a b c d; rw [show I116 = (sWash I5 F5 now1 (3 * t2 + i2)).1 from congrArg Prod.fst e116, sWash_I _ _ _ _ d]; exact fI5 q a b c d) (by rw [show I116 = (sWash I5 F5 now1 (3 * t2 + i2)).1 from congrArg Prod.fst e116, sWash_I _ _ _ _ (by decide)]; exact zI5) _ _ hH ls (lv_sub hl [1, 2, 3, 4, 0] rfl)
            · have c37 : ¬ nT ≤ t := fun zz => c37 ((nI_leI (a := nT) (b := t) (by omega) (by omega)).mpr zz)
              refine lv_iconst (v := 0) hx hb dX7_go_40 (by decide) ?_
              refine lv_istore (lv' := [(4, .int 0), (0, .ref (ad 0)), (1, .int (nI n)), (2, .int (nI k)), (3, .int (nI t))]) hx hb dX7_go_41 hl (by decide) rfl (fun ls hl => ?_)
              suffices loop43 : ∀ (k43 : Nat) (i : Nat) (I3 : Nat → Int32) (F3 : Nat → Nat → Int32), (3 < i + k43) → (i ≤ op t) → (op t ≤ 3) → ((I3, F3) = runT now1 I2 F2 t i) → (i = 0 ∨ F2 8 t = 0) → (∀ q, q ≠ 14 → q ≠ 15 → F3 q = F q) → (∀ q, q ≠ 0 → q ≠ 26 → q ≠ 27 → q ≠ 28 → I3 q = I q) → (I3 0 = nI now1) → ∀ (H : Heap) (locs : List Loc), xH G A s.heap H locs (mw G ρ ad b I3 F3) → ∀ (ls : Array Slot), lv_has ls 5 [(0, .ref (ad 0)), (1, .int (nI n)), (2, .int (nI k)), (3, .int (nI t)), (4, .int (nI i))] → W p l e (headSpec wsX7_go _).room s m _ below meth c H locs 0 0 (MQ below _ _ s 0 0 A) (F0 m 43 ls []) from
                loop43 4 0 I2 F2 (by omega) (by omega) ((hop t (by omega)).2) (rfl) (Or.inl rfl) (fF2) (fI2) (zI2) _ _ hH ls (lv_sub hl [1, 2, 3, 4, 0] rfl)
              intro k43
              induction k43 with
              | zero =>
                intro i I3 F3 hfuel hi hi3 hT3 hb3 fF3 fI3 zI3 H locs hH ls hl
                exact absurd hfuel (by omega)
              | succ k43 ih43 =>
                intro i I3 F3 hfuel hi hi3 hT3 hb3 fF3 fI3 zI3 H locs hH ls hl
                refine lv_iload hx hb dX7_go_43 (lv_at hl 4 rfl) ?_
                refine lv_aload_n hx hb dX7_go_45 rfl (lv_at hl 0 rfl) ?_
                refine M_get hx hb hts hiX7 hown hK hρ hH 9 (by decide) hf32 (v := .ref (ad 9)) rfl dX7_go_46 ?_
                refine lv_iload_n hx hb dX7_go_49 rfl (lv_at hl 3 rfl) ?_
                refine M_iald hx hb hK hρ hH 9 60 (by decide) t rfl (by omega) dX7_go_50 ?_
                refine lv_topi (fun w50 ew50 => ?_)
                rw [show F3 9 t = nI (op t) from (congrFun (fF3 9 (by decide) (by decide)) t).trans (hop t (by omega)).1] at ew50
                subst ew50
                refine lv_icmp_ge (tgt := 79) hx hb dX7_go_51 (by decide) (fun c51 => ?_) (fun c51 => ?_)
                · have c51 : (op t) ≤ i := (nI_leI (a := (op t)) (b := i) (by omega) (by omega)).mp c51
                  refine lv_iinc (v := nI (t + 1)) (lv' := [(3, .int (nI (t + 1))), (0, .ref (ad 0)), (1, .int (nI n)), (2, .int (nI k)), (4, .int (nI i))]) hx hb dX7_go_79 hl (k := 3) rfl (by exact nI_add _ 1) (by decide) rfl (fun ls hl => ?_)
                  refine lv_goto (tgt := 32) hx hb dX7_go_82 (by decide) ?_
                  exact ih32 (t + 1) I3 F3 (by omega) (by omega) (runA_s hA hT3 ((congrFun (fF2 9 (by decide) (by decide)) t).trans (hop t (by omega)).1) (hop t (by omega)).2 hb3 (fun q8 => by first | omega | exact absurd (hb8.trans q8) c60)) (fF3) (fI3) (zI3) _ _ hH ls (lv_sub hl [1, 2, 3, 0] rfl)
                · have c51 : ¬ (op t) ≤ i := fun zz => c51 ((nI_leI (a := (op t)) (b := i) (by omega) (by omega)).mpr zz)
                  have hop3 := (hop t (by omega)).2
                  have hb8 : F3 8 t = F2 8 t := congrFun ((fF3 8 (by decide) (by decide)).trans (fF2 8 (by decide) (by decide)).symm) t
                  refine lv_aload_n hx hb dX7_go_54 rfl (lv_at hl 0 rfl) ?_
                  refine M_get hx hb hts hiX7 hown hK hρ hH 8 (by decide) hf28 (v := .ref (ad 8)) rfl dX7_go_55 ?_
                  refine lv_iload_n hx hb dX7_go_58 rfl (lv_at hl 3 rfl) ?_
                  refine M_zald hx hb hK hρ hH 8 60 (by decide) t rfl (by omega) dX7_go_59 ?_
                  refine lv_if_ne (tgt := 79) hx hb dX7_go_60 (by decide) (fun c60 => ?_) (fun c60 => ?_)
                  · refine lv_iinc (v := nI (t + 1)) (lv' := [(3, .int (nI (t + 1))), (0, .ref (ad 0)), (1, .int (nI n)), (2, .int (nI k)), (4, .int (nI i))]) hx hb dX7_go_79 hl (k := 3) rfl (by exact nI_add _ 1) (by decide) rfl (fun ls hl => ?_)
                    refine lv_goto (tgt := 32) hx hb dX7_go_82 (by decide) ?_
                    exact ih32 (t + 1) I3 F3 (by omega) (by omega) (runA_s hA hT3 ((congrFun (fF2 9 (by decide) (by decide)) t).trans (hop t (by omega)).1) (hop t (by omega)).2 hb3 (fun q8 => by first | omega | exact absurd (hb8.trans q8) c60)) (fF3) (fI3) (zI3) _ _ hH ls (lv_sub hl [1, 2, 3, 0] rfl)
                  · obtain ⟨oy, ho1, ho2⟩ := hoy t (by omega) i (by omega)
                    obtain ⟨gr, hg4, hgr⟩ := gradI_nat (F := F3) (f := 3 * t + i) (now := now1) (oy := oy) (by omega) ((congrFun (fF3 13 (by decide) (by decide)) _).trans ho1) (Nat.le_trans ho2 (Nat.div_le_div_right (by omega)))
                    refine lv_aload_n hx hb dX7_go_63 rfl (lv_at hl 0 rfl) ?_
                    refine lv_iconst (v := 3) hx hb dX7_go_64 (by decide) ?_
                    refine lv_iload_n hx hb dX7_go_65 rfl (lv_at hl 3 rfl) ?_
                    refine N_imul hx hb 3 t rfl rfl dX7_go_66 ?_
                    refine lv_iload hx hb dX7_go_67 (lv_at hl 4 rfl) ?_
                    refine N_iadd hx hb (3 * t) i rfl rfl dX7_go_69 ?_
                    refine x_callv (va_runV (As := [.int (nI ((3 * t) + i))]) (rest := []) ⟨hx, hb, hml, hown, hts⟩ (c_X7_runs l G A ρ ad b I3 F3 hρ now1 zI3 (by omega) (3 * t + i) gr (by omega) hgr hg4) (cwV 1 hts gX7_go_X7_runs rfl rfl rfl (by decide +kernel) ⟨Nat.le_of_ble_eq_true rfl, Nat.le_of_ble_eq_true rfl⟩) (x_preV hK hH hTt (mw_ob hρ) rfl [.int (nI ((3 * t) + i))]) rfl rfl hl.1 rfl (lv_room (Nat.le_of_ble_eq_true rfl)) dX7_go_70 ⟨Nat.le_of_ble_eq_true rfl, Nat.le_of_ble_eq_true rfl⟩) hH (fun u H locs hp hH => ?_)
                    obtain ⟨I70, F70⟩ := u
                    have e70 := hp
                    have hH : xH G A s.heap H locs (mw G ρ ad b I70 F70) := hH
                    refine lv_iinc (v := nI (i + 1)) (lv' := [(4, .int (nI (i + 1))), (0, .ref (ad 0)), (1, .int (nI n)), (2, .int (nI k)), (3, .int (nI t))]) hx hb dX7_go_73 hl (k := 4) rfl (by exact nI_add _ 1) (by decide) rfl (fun ls hl => ?_)
                    refine lv_goto (tgt := 43) hx hb dX7_go_76 (by decide) ?_
                    exact ih43 (i + 1) I70 F70 (by omega) (by omega) (hi3) (by simp only [runT]; rw [← hT3]; exact e70) (Or.inr (by rw [← hb8]; exact c60)) (by intro q a b; rw [show F70 = (sRuns I3 F3 now1 (3 * t + i)).2 from congrArg Prod.snd e70, sRuns_F _ _ _ _ a b]; exact fF3 q a b) (by intro q a b c d; rw [show I70 = (sRuns I3 F3 now1 (3 * t + i)).1 from congrArg Prod.fst e70, sRuns_I _ _ _ _ b c]; exact fI3 q a b c d) (by rw [show I70 = (sRuns I3 F3 now1 (3 * t + i)).1 from congrArg Prod.fst e70, sRuns_I _ _ _ _ (by decide) (by decide)]; exact zI3) _ _ hH ls (lv_sub hl [1, 2, 3, 4, 0] rfl)
  · refine lv_iconst (v := (-1)) hx hb dX7_go_11 (by decide) ?_
    exact x_iret (v := (-1)) (I, F) hx hb hr hlocks hK hH (by simp only [sGo]; rw [if_pos c8]) dX7_go_12
