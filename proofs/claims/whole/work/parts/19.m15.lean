
def nsum (f : Nat → Nat) : Nat → Nat
  | 0 => 0
  | n + 1 => nsum f n + f n
theorem nsum_le (f : Nat → Nat) (m : Nat) : ∀ d, nsum f m ≤ nsum f (m + d)
  | 0 => Nat.le_refl _
  | d + 1 => by have := nsum_le f m d; show nsum f m ≤ nsum f (m + d) + f (m + d); omega
def c4 (cg : Nat → Nat) (f : Nat) : Nat := nsum (fun g => cg (4 * f + g)) 4
theorem nsum_4 (cg : Nat → Nat) (t : Nat) : ∀ o, nsum (fun j => cg (12 * t + j)) (4 * o) = nsum (fun i => c4 cg (3 * t + i)) o
  | 0 => rfl
  | o + 1 => by
    rw [show 4 * (o + 1) = 4 * o + 1 + 1 + 1 + 1 by omega]
    simp only [nsum, c4]
    rw [nsum_4 cg t o]
    simp only [c4, nsum]
    rw [show 12 * t + (4 * o) = 4 * (3 * t + o) + 0 by omega, show 12 * t + (4 * o + 1) = 4 * (3 * t + o) + 1 by omega, show 12 * t + (4 * o + 1 + 1) = 4 * (3 * t + o) + 2 by omega, show 12 * t + (4 * o + 1 + 1 + 1) = 4 * (3 * t + o) + 3 by omega]
    omega
theorem lsum_nat {A : Nat → Int32} {f : Nat → Nat} : ∀ n, (∀ j, j < n → A j = nI (f j)) → l_sum A n = nI (nsum f n)
  | 0, _ => rfl
  | n + 1, h => by
    show l_sum A n + A n = nI (nsum f n + f n)
    rw [lsum_nat n (fun j hj => h j (by omega)), h n (by omega), nI_add]
theorem cupS_nat {F : Nat → Nat → Int32} {cg : Nat → Nat} (h : ∀ j, j < 720 → F 14 j = nI (cg j)) {f : Nat} (hf : f < 180) : cupS F f = nI (c4 cg f) := lsum_nat 4 (fun g hg => h _ (by omega))
theorem orN_le (F : Nat → Nat → Int32) (hs : Nat → Nat) (w : Int32) : ∀ n, orN F hs w n ≤ 1000 * n
  | 0 => Nat.le_refl _
  | n + 1 => by
    have := orN_le F hs w n
    have : ctr F hs w n ≤ 1000 := by unfold ctr; split <;> (try split) <;> omega
    simp only [orN]
    omega
theorem roomS_nat {F : Nat → Nat → Int32} {hs : Nat → Nat} {w : Int32} (h : ∀ q, q < 200 → hasS F q = nI (hs q) ∧ hs q ≤ 1000) : ∀ n, n ≤ 200 → roomS F w n = nI (orN F hs w n)
  | 0, _ => rfl
  | n + 1, hn => by
    simp only [roomS, orN, ctr]
    rw [roomS_nat h n (by omega), ← nI_add]
    congr 1
    by_cases a : F 17 n = w
    · rw [if_pos a, if_pos a]
      by_cases b : fullI F n = 0
      · rw [if_pos b, if_pos b, (h n (by omega)).1]
        exact pk_sub (a := 1000) (h n (by omega)).2
      · rw [if_neg b, if_neg b]; rfl
    · rw [if_neg a, if_neg a]; rfl
theorem sub_le0 {a b : Nat} (ha : a < 2 ^ 30) (hb : b < 2 ^ 30) : nI a - nI b ≤ 0 ↔ a ≤ b := by
  rw [Int32.le_iff_toInt_le, pk_sub_toInt ha hb, show (0 : Int32).toInt = 0 by decide]
  omega
def empS (I : Nat → Int32) (F : Nat → Nat → Int32) (t : Nat) : Nat → MS
  | 0 => (I, F)
  | k + 1 => ((fillS t (k % 4) (ix ((empS I F t k).2 14 (12 * t + k)) + 1) (empS I F t k).1 (empS I F t k).2 ((empS I F t k).2 14 (12 * t + k))).1, setA (fillS t (k % 4) (ix ((empS I F t k).2 14 (12 * t + k)) + 1) (empS I F t k).1 (empS I F t k).2 ((empS I F t k).2 14 (12 * t + k))).2 14 (12 * t + k) 0)
def alS (F : Nat → Nat → Int32) (t : Nat) : Int32 := l_sum (fun i => cupS F (3 * t + i)) (ix (F 9 t))
def emOk (I : Nat → Int32) (F : Nat → Nat → Int32) (t : Nat) : Int32 × MS := (alS F t, va_up (empS I F t (4 * ix (F 9 t))).1 30 ((empS I F t (4 * ix (F 9 t))).1 30 + alS F t), setA (empS I F t (4 * ix (F 9 t))).2 24 (ix (F 4 t)) ((empS I F t (4 * ix (F 9 t))).2 24 (ix (F 4 t)) + alS F t))
def sEmpty (I : Nat → Int32) (F : Nat → Nat → Int32) (t : Int32) : Int32 × MS := if binI t 0 (I 3 - 1) = 0 then (-1, I, F) else if alS F (ix t) - roomS F (F 4 (ix t)) (ix (I 16)) ≤ 0 then emOk I F (ix t) else if I 16 + (alS F (ix t) - roomS F (F 4 (ix t)) (ix (I 16)) + 1000 - 1) / 1000 ≤ 200 then emOk I F (ix t) else (-1, I, F)
theorem BV_14 {I : Nat → Int32} {F : Nat → Nat → Int32} {hs : Nat → Nat} {nB j : Nat} {x : Int32} (h : BV I F hs nB) : BV I (setA F 14 j x) hs nB := by
  obtain ⟨h1, h2, h3, h4⟩ := h
  refine ⟨h1, h2, fun q hq => ?_, fun q a b => ?_⟩
  · rw [hasS_set _ _ _ _ (by decide)]; exact h3 q hq
  · rw [setA_n _ _ _ (by decide), setA_n _ _ _ (by decide)]; exact h4 q a b
theorem cap_14 {F : Nat → Nat → Int32} {hs : Nat → Nat} {nB j t : Nat} {x : Int32} : capN (setA F 14 j x) hs ((setA F 14 j x) 4 t) nB = capN F hs (F 4 t) nB := by
  rw [setA_n _ _ _ (by decide)]
  unfold capN
  congr 1
  exact orN_same nB (fun q _ => by
    unfold ctr
    rw [setA_n _ _ _ (by decide), fullI_eq (F := F) (hasS_set _ _ _ _ (by decide)) (by rw [setA_n _ _ _ (by decide)]) (by rw [setA_n _ _ _ (by decide)])])

set_option maxHeartbeats 4000000 in
set_option maxRecDepth 100000 in
theorem c_X7_empty (l : Launch) (G : XG) (A : Nat → Prop) (ρ : Nat → Option Nat) (ad : Nat → Nat) (b : XW) (I : Nat → Int32) (F : Nat → Nat → Int32) (hρ : mA ρ ad) (nT : Nat) (hn : I 3 = nI nT) (hT : nT ≤ 60) (op : Nat → Nat) (hop : ∀ t, t < nT → F 9 t = nI (op t) ∧ op t ≤ 3) (nB : Nat) (hs : Nat → Nat) (hV : BV I F hs nB) (cg : Nat → Nat) (hcg : ∀ j, j < 720 → F 14 j = nI (cg j)) (hcs : ∀ f, f < 180 → c4 cg f ≤ 400) (wd : Nat → Nat) (hwd : ∀ t, t < nT → F 4 t = nI (wd t) ∧ wd t < 6) (t : Int32) : Met l yX7_empty wsX7_empty ({ frames := 3, cells := 0, slots := 0, locals := 71 }) (va_Pc [.ref (ad 0), .int t] (xP G A (mw G ρ ad b I F))) (va_Qi (fun (r : Int32) (u : (Nat → Int32) × (Nat → Nat → Int32)) => (r, u) = sEmpty I F t) (fun u t => xB G A (mw G ρ ad b u.1 u.2) t) A) 0 0 A := by
  refine Met.ofW (cc := cX7_empty) (maxL := 6) (ret := (some .int)) (by decide) rfl ?_
  intro p e s m args below meth c s₁ B hml hv
  obtain ⟨rfl, hK, hH, hTt⟩ := hv
  have hx := B.exec
  have hb := B.bytes
  have hr := B.returns
  have hts := atoms_spec (ws := wsX7_empty) B.pre
  have hown : s.vm.findClass RX7 = some m.cls := findClass_of_methodNamed B.named
  have hlocks := B.notSynchronized
  have hiX7 : ∀ w ∈ wsX70, w ∈ wsX7_empty := by decide +kernel
  have hf16 := hts (.fieldLink RX7 16 "ResinWoodsModel" "wood" "[I") (by decide +kernel)
  have hf32 := hts (.fieldLink RX7 32 "ResinWoodsModel" "opened" "[I") (by decide +kernel)
  have hf47 := hts (.fieldLink RX7 47 "ResinWoodsModel" "cups" "[I") (by decide +kernel)
  have hf74 := hts (.fieldLink RX7 74 "ResinWoodsModel" "taken" "[I") (by decide +kernel)
  have hf143 := hts (.fieldLink RX7 143 "ResinWoodsModel" "barrels" "I") (by decide +kernel)
  have hf156 := hts (.fieldLink RX7 156 "ResinWoodsModel" "emptied" "I") (by decide +kernel)
  have hl := lv_entry ([.ref (ad 0), .int t]) (n := 6) (Nat.le_of_ble_eq_true rfl)
  rw [lg_entry_eq]
  generalize (lg_sl ([.ref (ad 0), .int t]) ++ List.replicate (6 - (lg_sl ([.ref (ad 0), .int t])).length) Slot.unset).toArray = ls at hl ⊢
  have hl : lv_has ls 6 [(0, .ref (ad 0)), (1, .int t)] := hl
  refine lv_aload_n hx hb dX7_empty_0 rfl (lv_at hl 0 rfl) ?_
  refine lv_iload_n hx hb dX7_empty_1 rfl (lv_at hl 1 rfl) ?_
  refine x_calli (va_runV (As := [.int t]) (rest := []) ⟨hx, hb, hml, hown, hts⟩ (c_X7_isTree l G A ρ ad b I F hρ t) (cwV 1 hts gX7_empty_X7_isTree rfl rfl rfl (by decide +kernel) ⟨Nat.le_of_ble_eq_true rfl, Nat.le_of_ble_eq_true rfl⟩) (x_preV hK hH hTt (mw_ob hρ) rfl [.int t]) rfl rfl hl.1 rfl (lv_room (Nat.le_of_ble_eq_true rfl)) dX7_empty_2 ⟨Nat.le_of_ble_eq_true rfl, Nat.le_of_ble_eq_true rfl⟩) hH (fun r2 u H locs hp hH => ?_)
  obtain ⟨rfl, rfl⟩ := hp
  have hH : xH G A s.heap H locs (mw G ρ ad b I F) := hH
  refine lv_if_ne (tgt := 10) hx hb dX7_empty_5 (by decide) (fun c5 => ?_) (fun c5 => ?_)
  · obtain ⟨t1, ht1, rfl⟩ := inI_pred (n := nT) (by rw [← hn]; exact binI_1.mp c5) (by omega)
    obtain ⟨hop2, hop1⟩ := hop t1 ht1
    obtain ⟨hwd1, hwd2⟩ := hwd t1 ht1
    obtain ⟨OR, hOR⟩ : ∃ z, z = orN F hs (F 4 t1) nB := ⟨_, rfl⟩
    have hOR2 := orN_le F hs (F 4 t1) nB
    have hnB2 := hV.2.1
    refine lv_iconst (v := 0) hx hb dX7_empty_10 (by decide) ?_
    refine lv_istore_n (lv' := [(2, .int 0), (0, .ref (ad 0)), (1, .int (nI t1))]) hx hb dX7_empty_11 rfl hl (by decide) rfl (fun ls hl => ?_)
    refine lv_iconst (v := 0) hx hb dX7_empty_12 (by decide) ?_
    refine lv_istore_n (lv' := [(3, .int 0), (2, .int 0), (0, .ref (ad 0)), (1, .int (nI t1))]) hx hb dX7_empty_13 rfl hl (by decide) rfl (fun ls hl => ?_)
    suffices loop14 : ∀ (k14 : Nat) (i : Nat) (ac : Nat), (3 < i + k14) → (i ≤ op t1) → (op t1 ≤ 3) → (ac = nsum (fun i => c4 cg (3 * t1 + i)) i) → ∀ (H : Heap) (locs : List Loc), xH G A s.heap H locs (mw G ρ ad b I F) → ∀ (ls : Array Slot), lv_has ls 6 [(0, .ref (ad 0)), (1, .int (nI t1)), (2, .int (nI ac)), (3, .int (nI i))] → W p l e (headSpec wsX7_empty _).room s m _ below meth c H locs 0 0 (MQ below _ _ s 0 0 A) (F0 m 14 ls []) from
      loop14 4 0 0 (by omega) (by omega) (hop1) (rfl) _ _ hH ls (lv_sub hl [2, 3, 1, 0] rfl)
    intro k14
    induction k14 with
    | zero =>
      intro i ac hfuel hi hi3 hacc H locs hH ls hl
      exact absurd hfuel (by omega)
    | succ k14 ih14 =>
      intro i ac hfuel hi hi3 hacc H locs hH ls hl
      have hal3 : ∀ z, z = nsum (fun i => c4 cg (3 * t1 + i)) (op t1) → z ≤ 1200 := by
        intro z hz
        have z0 := hcs (3 * t1 + 0) (by omega)
        have z1 := hcs (3 * t1 + 1) (by omega)
        have z2 := hcs (3 * t1 + 2) (by omega)
        rcases (show op t1 = 0 ∨ op t1 = 1 ∨ op t1 = 2 ∨ op t1 = 3 by omega) with q | q | q | q <;> (rw [q] at hz; simp only [nsum] at hz; omega)
      refine lv_iload_n hx hb dX7_empty_14 rfl (lv_at hl 3 rfl) ?_
      refine lv_aload_n hx hb dX7_empty_15 rfl (lv_at hl 0 rfl) ?_
      refine M_get hx hb hts hiX7 hown hK hρ hH 9 (by decide) hf32 (v := .ref (ad 9)) rfl dX7_empty_16 ?_
      refine lv_iload_n hx hb dX7_empty_19 rfl (lv_at hl 1 rfl) ?_
      refine M_iald hx hb hK hρ hH 9 60 (by decide) t1 rfl (by omega) dX7_empty_20 ?_
      refine lv_topi (fun w20 ew20 => ?_)
      rw [hop2] at ew20
      subst ew20
      refine lv_icmp_ge (tgt := 42) hx hb dX7_empty_21 (by decide) (fun c21 => ?_) (fun c21 => ?_)
      · have c21 : (op t1) ≤ i := (nI_leI (a := (op t1)) (b := i) (by omega) (by omega)).mp c21
        have hac : ac = nsum (fun i => c4 cg (3 * t1 + i)) (op t1) := by rw [hacc, show i = op t1 by omega]
        have hac2 : ac ≤ 1200 := hal3 ac hac
        have hal : alS F t1 = nI ac := by unfold alS; rw [hop2, ix_n (by omega), hac]; exact lsum_nat _ (fun j hj => cupS_nat hcg (by omega))
        have hrm : roomS F (F 4 t1) (ix (I 16)) = nI OR := by rw [hV.1, ix_n (by omega), hOR]; exact roomS_nat hV.2.2.1 nB hV.2.1
        refine lv_iload_n hx hb dX7_empty_42 rfl (lv_at hl 2 rfl) ?_
        refine lv_aload_n hx hb dX7_empty_43 rfl (lv_at hl 0 rfl) ?_
        refine lv_aload_n hx hb dX7_empty_44 rfl (lv_at hl 0 rfl) ?_
        refine M_get hx hb hts hiX7 hown hK hρ hH 4 (by decide) hf16 (v := .ref (ad 4)) rfl dX7_empty_45 ?_
        refine lv_iload_n hx hb dX7_empty_48 rfl (lv_at hl 1 rfl) ?_
        refine M_iald hx hb hK hρ hH 4 60 (by decide) t1 rfl (by omega) dX7_empty_49 ?_
        refine x_calli (va_runV (As := [.int (F 4 t1)]) (rest := [.int (nI ac)]) ⟨hx, hb, hml, hown, hts⟩ (c_X7_room l G A ρ ad b I F hρ nB hV.1 hV.2.1 (F 4 t1)) (cwV 1 hts gX7_empty_X7_room rfl rfl rfl (by decide +kernel) ⟨Nat.le_of_ble_eq_true rfl, Nat.le_of_ble_eq_true rfl⟩) (x_preV hK hH hTt (mw_ob hρ) rfl [.int (F 4 t1)]) rfl rfl hl.1 rfl (lv_room (Nat.le_of_ble_eq_true rfl)) dX7_empty_50 ⟨Nat.le_of_ble_eq_true rfl, Nat.le_of_ble_eq_true rfl⟩) hH (fun r50 u H locs hp hH => ?_)
        obtain ⟨rfl, rfl⟩ := hp
        have hH : xH G A s.heap H locs (mw G ρ ad b I F) := hH
        refine lv_topi (fun w50 ew50 => ?_)
        rw [(roomS_nat hV.2.2.1 nB hV.2.1).trans (congrArg nI hOR.symm)] at ew50
        subst ew50
        refine lv_isub hx hb dX7_empty_53 ?_
        refine lv_topi (fun v54 ev54 => ?_)
        refine lv_istore_n (lv' := [(3, .int v54), (0, .ref (ad 0)), (1, .int (nI t1)), (2, .int (nI ac))]) hx hb dX7_empty_54 rfl hl (by decide) rfl (fun ls hl => ?_)
        refine lv_iload_n hx hb dX7_empty_55 rfl (lv_at hl 0 rfl) ?_
        refine lv_if_le (tgt := 83) hx hb dX7_empty_56 (by decide) (fun c56 => ?_) (fun c56 => ?_)
        · have hle : ac ≤ OR := (sub_le0 (by omega) (by omega)).mp (by rw [← ev54]; exact c56)
          have hcap : ac ≤ capN F hs (F 4 t1) nB := by unfold capN; omega
          have hEm : sEmpty I F (nI t1) = emOk I F t1 := by unfold sEmpty; rw [if_neg c5, ix_n (by omega), hal, hrm, if_pos (by rw [← ev54]; exact c56)]
          refine lv_iconst (v := 0) hx hb dX7_empty_83 (by decide) ?_
          refine lv_istore (lv' := [(4, .int 0), (3, .int v54), (0, .ref (ad 0)), (1, .int (nI t1)), (2, .int (nI ac))]) hx hb dX7_empty_84 hl (by decide) rfl (fun ls hl => ?_)
          suffices loop86 : ∀ (k86 : Nat) (k : Nat) (nB1 : Nat) (hs1 : Nat → Nat) (I1 : Nat → Int32) (F1 : Nat → Nat → Int32), (4 * op t1 < k + k86) → (k ≤ 4 * op t1) → (BV I1 F1 hs1 nB1) → (nsum (fun j => cg (12 * t1 + j)) (4 * op t1) ≤ capN F1 hs1 (F1 4 t1) nB1 + nsum (fun j => cg (12 * t1 + j)) k) → ((I1, F1) = empS I F t1 k) → (∀ q, q ≠ 14 → q ≠ 17 → q ≠ 18 → q ≠ 19 → F1 q = F q) → (∀ q, q ≠ 16 → I1 q = I q) → (∀ j, 12 * t1 + k ≤ j → j < 12 * t1 + 12 → F1 14 j = F 14 j) → ∀ (H : Heap) (locs : List Loc), xH G A s.heap H locs (mw G ρ ad b I1 F1) → ∀ (ls : Array Slot), lv_has ls 6 [(0, .ref (ad 0)), (1, .int (nI t1)), (2, .int (nI ac)), (4, .int (nI k))] → W p l e (headSpec wsX7_empty _).room s m _ below meth c H locs 0 0 (MQ below _ _ s 0 0 A) (F0 m 86 ls []) from
            loop86 (4 * op t1 + 1) 0 nB hs I F (by omega) (by omega) (hV) (by rw [nsum_4, ← hac]; exact Nat.le_trans hcap (Nat.le_add_right _ _)) (rfl) (fun _ _ _ _ _ => rfl) (fun _ _ => rfl) (fun _ _ _ => rfl) _ _ hH ls (lv_sub hl [2, 3, 4, 0] rfl)
          intro k86
          induction k86 with
          | zero =>
            intro k nB1 hs1 I1 F1 hfuel hk hV1 hcp hS hfF hfI h14 H locs hH ls hl
            exact absurd hfuel (by omega)
          | succ k86 ih86 =>
            intro k nB1 hs1 I1 F1 hfuel hk hV1 hcp hS hfF hfI h14 H locs hH ls hl
            have hc400 : ∀ j, j < 12 → cg (12 * t1 + j) ≤ 400 := by
              intro j hj
              have z := hcs (3 * t1 + j / 4) (by omega)
              simp only [c4, nsum] at z
              rcases (show 12 * t1 + j = 4 * (3 * t1 + j / 4) + 0 ∨ 12 * t1 + j = 4 * (3 * t1 + j / 4) + 1 ∨ 12 * t1 + j = 4 * (3 * t1 + j / 4) + 2 ∨ 12 * t1 + j = 4 * (3 * t1 + j / 4) + 3 by omega) with q | q | q | q <;> (rw [q]; omega)
            refine lv_iload hx hb dX7_empty_86 (lv_at hl 3 rfl) ?_
            refine lv_aload_n hx hb dX7_empty_88 rfl (lv_at hl 0 rfl) ?_
            refine M_get hx hb hts hiX7 hown hK hρ hH 9 (by decide) hf32 (v := .ref (ad 9)) rfl dX7_empty_89 ?_
            refine lv_iload_n hx hb dX7_empty_92 rfl (lv_at hl 1 rfl) ?_
            refine M_iald hx hb hK hρ hH 9 60 (by decide) t1 rfl (by omega) dX7_empty_93 ?_
            refine lv_topi (fun w93 ew93 => ?_)
            rw [show F1 9 t1 = nI (op t1) by rw [hfF 9 (by decide) (by decide) (by decide) (by decide)]; exact hop2] at ew93
            subst ew93
            refine lv_iconst (v := 4) hx hb dX7_empty_94 (by decide) ?_
            refine N_imul hx hb (op t1) 4 rfl rfl dX7_empty_95 ?_
            refine lv_icmp_ge (tgt := 138) hx hb dX7_empty_96 (by decide) (fun c96 => ?_) (fun c96 => ?_)
            · have c96 : ((op t1) * 4) ≤ k := (nI_leI (a := ((op t1) * 4)) (b := k) (by omega) (by omega)).mp c96
              refine lv_aload_n hx hb dX7_empty_138 rfl (lv_at hl 0 rfl) ?_
              refine lv_dup hx hb dX7_empty_139 rfl ?_
              refine M_get hx hb hts hiX7 hown hK hρ hH 30 (by decide) hf156 (v := .int (I1 30)) rfl dX7_empty_140 ?_
              refine lv_iload_n hx hb dX7_empty_143 rfl (lv_at hl 2 rfl) ?_
              refine lv_iadd hx hb dX7_empty_144 ?_
              refine M_put hx hb hts hiX7 hown hK hρ hH 30 (by decide) hf156 rfl (by decide +kernel) rfl dX7_empty_145 (fun H locs hH => ?_)
              obtain ⟨I145, eI145⟩ : ∃ z, z = va_up I1 30 ((I1 30) + (nI ac)) := ⟨_, rfl⟩
              rw [← eI145] at hH
              refine lv_aload_n hx hb dX7_empty_148 rfl (lv_at hl 0 rfl) ?_
              refine M_get hx hb hts hiX7 hown hK hρ hH 24 (by decide) hf74 (v := .ref (ad 24)) rfl dX7_empty_149 ?_
              refine lv_aload_n hx hb dX7_empty_152 rfl (lv_at hl 0 rfl) ?_
              refine M_get hx hb hts hiX7 hown hK hρ hH 4 (by decide) hf16 (v := .ref (ad 4)) rfl dX7_empty_153 ?_
              refine lv_iload_n hx hb dX7_empty_156 rfl (lv_at hl 1 rfl) ?_
              refine M_iald hx hb hK hρ hH 4 60 (by decide) t1 rfl (by omega) dX7_empty_157 ?_
              refine lv_topi (fun w157 ew157 => ?_)
              rw [show F1 4 t1 = nI (wd t1) by rw [hfF 4 (by decide) (by decide) (by decide) (by decide)]; exact hwd1] at ew157
              subst ew157
              refine lv_dup2_11 hx hb dX7_empty_158 rfl rfl ?_
              refine M_iald hx hb hK hρ hH 24 6 (by decide) (wd t1) rfl (by omega) dX7_empty_159 ?_
              refine lv_iload_n hx hb dX7_empty_160 rfl (lv_at hl 2 rfl) ?_
              refine lv_iadd hx hb dX7_empty_161 ?_
              refine M_iast hx hb hK hρ hH 24 6 (by decide) (wd t1) rfl (by omega) dX7_empty_162 (fun H locs hH => ?_)
              obtain ⟨F162, eF162⟩ : ∃ z, z = setA F1 24 (wd t1) ((F1 24 (wd t1)) + (nI ac)) := ⟨_, rfl⟩
              rw [← eF162] at hH
              refine lv_iload_n hx hb dX7_empty_163 rfl (lv_at hl 2 rfl) ?_
              exact x_iret (v := nI ac) (I145, F162) hx hb hr hlocks hK hH (by rw [hEm]; unfold emOk; rw [hop2, ix_n (by omega), hwd1, ix_n (by omega), show 4 * op t1 = k by omega, ← hS, hal, eF162, eI145]) dX7_empty_164
            · have c96 : ¬ ((op t1) * 4) ≤ k := fun zz => c96 ((nI_leI (a := ((op t1) * 4)) (b := k) (by omega) (by omega)).mpr zz)
              have hc9 : F1 14 (12 * t1 + k) = nI (cg (12 * t1 + k)) := by rw [h14 _ (by omega) (by omega)]; exact hcg _ (by omega)
              have hm9 := nsum_le (fun j => cg (12 * t1 + j)) (k + 1) (4 * op t1 - (k + 1))
              rw [show k + 1 + (4 * op t1 - (k + 1)) = 4 * op t1 by omega] at hm9
              have hm9 : nsum (fun j => cg (12 * t1 + j)) k + cg (12 * t1 + k) ≤ nsum (fun j => cg (12 * t1 + j)) (4 * op t1) := hm9
              have hm8 : cg (12 * t1 + k) ≤ 400 := hc400 k (by omega)
              refine lv_bipush (v := 12) hx hb dX7_empty_99 (by decide) ?_
              refine lv_iload_n hx hb dX7_empty_101 rfl (lv_at hl 1 rfl) ?_
              refine N_imul hx hb 12 t1 rfl rfl dX7_empty_102 ?_
              refine lv_iload hx hb dX7_empty_103 (lv_at hl 3 rfl) ?_
              refine N_iadd hx hb (12 * t1) k rfl rfl dX7_empty_105 ?_
              refine lv_istore (lv' := [(5, .int (nI ((12 * t1) + k))), (0, .ref (ad 0)), (1, .int (nI t1)), (2, .int (nI ac)), (4, .int (nI k))]) hx hb dX7_empty_106 hl (by decide) rfl (fun ls hl => ?_)
              refine lv_aload_n hx hb dX7_empty_108 rfl (lv_at hl 1 rfl) ?_
              refine lv_iload_n hx hb dX7_empty_109 rfl (lv_at hl 2 rfl) ?_
              refine lv_iload hx hb dX7_empty_110 (lv_at hl 4 rfl) ?_
              refine lv_iconst (v := 4) hx hb dX7_empty_112 (by decide) ?_
              refine N_irem hx hb k 4 rfl rfl (by omega) (by decide) (by decide) dX7_empty_113 ?_
              refine lv_aload_n hx hb dX7_empty_114 rfl (lv_at hl 1 rfl) ?_
              refine M_get hx hb hts hiX7 hown hK hρ hH 14 (by decide) hf47 (v := .ref (ad 14)) rfl dX7_empty_115 ?_
              refine lv_iload hx hb dX7_empty_118 (lv_at hl 0 rfl) ?_
              refine M_iald hx hb hK hρ hH 14 720 (by decide) ((12 * t1) + k) rfl (by omega) dX7_empty_120 ?_
              refine lv_topi (fun w120 ew120 => ?_)
              rw [hc9] at ew120
              subst ew120
              refine x_callv (va_runV (As := [.int (nI t1), .int (nI (k % 4)), .int (nI (cg (12 * t1 + k)))]) (rest := []) ⟨hx, hb, hml, hown, hts⟩ (c_X7_fills l G A ρ ad b I1 F1 hρ nT (show I1 3 = nI nT by rw [hfI 3 (by decide)]; exact hn) hT t1 (k % 4) (cg (12 * t1 + k)) nB1 hs1 ht1 (by omega) (by omega) hV1 (by omega)) (cwV 3 hts gX7_empty_X7_fills rfl rfl rfl (by decide +kernel) ⟨Nat.le_of_ble_eq_true rfl, Nat.le_of_ble_eq_true rfl⟩) (x_preV hK hH hTt (mw_ob hρ) rfl [.int (nI t1), .int (nI (k % 4)), .int (nI (cg (12 * t1 + k)))]) rfl rfl hl.1 rfl (lv_room (Nat.le_of_ble_eq_true rfl)) dX7_empty_121 ⟨Nat.le_of_ble_eq_true rfl, Nat.le_of_ble_eq_true rfl⟩) hH (fun u H locs hp hH => ?_)
              obtain ⟨I121, F121⟩ := u
              obtain ⟨e121, ⟨hs2, nB2, hV2, hcp2⟩, hfF2, hfI2⟩ := hp
              have hH : xH G A s.heap H locs (mw G ρ ad b I121 F121) := hH
              have hV2 : BV I121 F121 hs2 nB2 := hV2
              have hcp2 : capN F121 hs2 (F121 4 t1) nB2 + cg (12 * t1 + k) = capN F1 hs1 (F1 4 t1) nB1 := hcp2
              have hfF2 : ∀ q, q ≠ 17 → q ≠ 18 → q ≠ 19 → F121 q = F1 q := hfF2
              have hfI2 : ∀ q, q ≠ 16 → I121 q = I1 q := hfI2
              refine lv_aload_n hx hb dX7_empty_124 rfl (lv_at hl 1 rfl) ?_
              refine M_get hx hb hts hiX7 hown hK hρ hH 14 (by decide) hf47 (v := .ref (ad 14)) rfl dX7_empty_125 ?_
              refine lv_iload hx hb dX7_empty_128 (lv_at hl 0 rfl) ?_
              refine lv_iconst (v := 0) hx hb dX7_empty_130 (by decide) ?_
              refine M_iast hx hb hK hρ hH 14 720 (by decide) ((12 * t1) + k) rfl (by omega) dX7_empty_131 (fun H locs hH => ?_)
              obtain ⟨F131, eF131⟩ : ∃ z, z = setA F121 14 ((12 * t1) + k) 0 := ⟨_, rfl⟩
              rw [← eF131] at hH
              refine lv_iinc (v := nI (k + 1)) (lv' := [(4, .int (nI (k + 1))), (5, .int (nI ((12 * t1) + k))), (0, .ref (ad 0)), (1, .int (nI t1)), (2, .int (nI ac))]) hx hb dX7_empty_132 hl (k := 4) rfl (by exact nI_add _ 1) (by decide) rfl (fun ls hl => ?_)
              refine lv_goto (tgt := 86) hx hb dX7_empty_135 (by decide) ?_
              exact ih86 (k + 1) nB2 hs2 I121 F131 (by omega) (by omega) (by rw [eF131]; exact BV_14 hV2) (by rw [eF131, cap_14]; show _ ≤ _ + (nsum (fun j => cg (12 * t1 + j)) k + cg (12 * t1 + k)); omega) (by simp only [empS]; rw [← hS]; simp only []; rw [hc9, ix_n (by omega), ← e121, eF131]) (by intro q a b c d; rw [eF131, setA_n _ _ _ a, hfF2 q b c d]; exact hfF q a b c d) (by intro q a; rw [hfI2 q a]; exact hfI q a) (by intro j a b; rw [eF131, setA_e, if_neg (by omega), hfF2 14 (by decide) (by decide) (by decide)]; exact h14 j (by omega) b) _ _ hH ls (lv_sub hl [2, 3, 4, 0] rfl)
        · have hgt : OR < ac := Nat.lt_of_not_le (fun zz => c56 (by rw [ev54]; exact (sub_le0 (by omega) (by omega)).mpr zz))
          have c56b : ¬ nI ac - nI OR ≤ 0 := by rw [← ev54]; exact c56
          have c56 : True := trivial
          rw [pk_sub (by omega)] at ev54
          subst ev54
          refine lv_aload_n hx hb dX7_empty_59 rfl (lv_at hl 1 rfl) ?_
          refine M_get hx hb hts hiX7 hown hK hρ hH 16 (by decide) hf143 (v := .int (nI nB)) (congrArg (fun z => some (Value.int z)) hV.1) dX7_empty_60 ?_
          refine lv_iload_n hx hb dX7_empty_63 rfl (lv_at hl 0 rfl) ?_
          refine lv_sipush (v := 1000) hx hb dX7_empty_64 (by decide) ?_
          refine N_iadd hx hb (ac - OR) 1000 rfl rfl dX7_empty_67 ?_
          refine lv_iconst (v := 1) hx hb dX7_empty_68 (by decide) ?_
          refine N_isub hx hb ((ac - OR) + 1000) 1 rfl rfl (by omega) dX7_empty_69 ?_
          refine lv_sipush (v := 1000) hx hb dX7_empty_70 (by decide) ?_
          refine N_idiv hx hb (((ac - OR) + 1000) - 1) 1000 rfl rfl (by omega) (by decide) (by decide) dX7_empty_73 ?_
          refine N_iadd hx hb nB ((((ac - OR) + 1000) - 1) / 1000) rfl rfl dX7_empty_74 ?_
          refine lv_sipush (v := 200) hx hb dX7_empty_75 (by decide) ?_
          refine lv_icmp_le (tgt := 83) hx hb dX7_empty_78 (by decide) (fun c78 => ?_) (fun c78 => ?_)
          · have c78 : (nB + ((((ac - OR) + 1000) - 1) / 1000)) ≤ 200 := (nI_leI (a := (nB + ((((ac - OR) + 1000) - 1) / 1000))) (b := 200) (by omega) (by omega)).mp c78
            have hdv : ((nI ac - nI OR + 1000 - 1 : Int32) / 1000) = nI ((ac - OR + 1000 - 1) / 1000) := by rw [pk_sub (by omega), show nI (ac - OR) + 1000 = nI (ac - OR + 1000) from nI_add _ 1000, show nI (ac - OR + 1000) - 1 = nI (ac - OR + 1000 - 1) from pk_sub (b := 1) (by omega)]; exact pk_div (by omega) (by decide) (by decide)
            have hcap : ac ≤ capN F hs (F 4 t1) nB := by unfold capN; omega
            have hEm : sEmpty I F (nI t1) = emOk I F t1 := by unfold sEmpty; rw [if_neg c5, ix_n (by omega), hal, hrm, if_neg c56b, hdv, hV.1, nI_add, if_pos (show nI (nB + (ac - OR + 1000 - 1) / 1000) ≤ (200 : Int32) from (nI_leI (b := 200) (by omega) (by decide)).mpr c78)]
            refine lv_iconst (v := 0) hx hb dX7_empty_83 (by decide) ?_
            refine lv_istore (lv' := [(4, .int 0), (3, .int (nI (ac - OR))), (0, .ref (ad 0)), (1, .int (nI t1)), (2, .int (nI ac))]) hx hb dX7_empty_84 hl (by decide) rfl (fun ls hl => ?_)
            suffices loop86 : ∀ (k86 : Nat) (k : Nat) (nB1 : Nat) (hs1 : Nat → Nat) (I1 : Nat → Int32) (F1 : Nat → Nat → Int32), (4 * op t1 < k + k86) → (k ≤ 4 * op t1) → (BV I1 F1 hs1 nB1) → (nsum (fun j => cg (12 * t1 + j)) (4 * op t1) ≤ capN F1 hs1 (F1 4 t1) nB1 + nsum (fun j => cg (12 * t1 + j)) k) → ((I1, F1) = empS I F t1 k) → (∀ q, q ≠ 14 → q ≠ 17 → q ≠ 18 → q ≠ 19 → F1 q = F q) → (∀ q, q ≠ 16 → I1 q = I q) → (∀ j, 12 * t1 + k ≤ j → j < 12 * t1 + 12 → F1 14 j = F 14 j) → ∀ (H : Heap) (locs : List Loc), xH G A s.heap H locs (mw G ρ ad b I1 F1) → ∀ (ls : Array Slot), lv_has ls 6 [(0, .ref (ad 0)), (1, .int (nI t1)), (2, .int (nI ac)), (4, .int (nI k))] → W p l e (headSpec wsX7_empty _).room s m _ below meth c H locs 0 0 (MQ below _ _ s 0 0 A) (F0 m 86 ls []) from
              loop86 (4 * op t1 + 1) 0 nB hs I F (by omega) (by omega) (hV) (by rw [nsum_4, ← hac]; exact Nat.le_trans hcap (Nat.le_add_right _ _)) (rfl) (fun _ _ _ _ _ => rfl) (fun _ _ => rfl) (fun _ _ _ => rfl) _ _ hH ls (lv_sub hl [2, 3, 4, 0] rfl)
            intro k86
            induction k86 with
            | zero =>
              intro k nB1 hs1 I1 F1 hfuel hk hV1 hcp hS hfF hfI h14 H locs hH ls hl
              exact absurd hfuel (by omega)
            | succ k86 ih86 =>
              intro k nB1 hs1 I1 F1 hfuel hk hV1 hcp hS hfF hfI h14 H locs hH ls hl
              have hc400 : ∀ j, j < 12 → cg (12 * t1 + j) ≤ 400 := by
                intro j hj
                have z := hcs (3 * t1 + j / 4) (by omega)
                simp only [c4, nsum] at z
                rcases (show 12 * t1 + j = 4 * (3 * t1 + j / 4) + 0 ∨ 12 * t1 + j = 4 * (3 * t1 + j / 4) + 1 ∨ 12 * t1 + j = 4 * (3 * t1 + j / 4) + 2 ∨ 12 * t1 + j = 4 * (3 * t1 + j / 4) + 3 by omega) with q | q | q | q <;> (rw [q]; omega)
              refine lv_iload hx hb dX7_empty_86 (lv_at hl 3 rfl) ?_
              refine lv_aload_n hx hb dX7_empty_88 rfl (lv_at hl 0 rfl) ?_
              refine M_get hx hb hts hiX7 hown hK hρ hH 9 (by decide) hf32 (v := .ref (ad 9)) rfl dX7_empty_89 ?_
              refine lv_iload_n hx hb dX7_empty_92 rfl (lv_at hl 1 rfl) ?_
              refine M_iald hx hb hK hρ hH 9 60 (by decide) t1 rfl (by omega) dX7_empty_93 ?_
              refine lv_topi (fun w93 ew93 => ?_)
              rw [show F1 9 t1 = nI (op t1) by rw [hfF 9 (by decide) (by decide) (by decide) (by decide)]; exact hop2] at ew93
              subst ew93
              refine lv_iconst (v := 4) hx hb dX7_empty_94 (by decide) ?_
              refine N_imul hx hb (op t1) 4 rfl rfl dX7_empty_95 ?_
              refine lv_icmp_ge (tgt := 138) hx hb dX7_empty_96 (by decide) (fun c96 => ?_) (fun c96 => ?_)
              · have c96 : ((op t1) * 4) ≤ k := (nI_leI (a := ((op t1) * 4)) (b := k) (by omega) (by omega)).mp c96
                refine lv_aload_n hx hb dX7_empty_138 rfl (lv_at hl 0 rfl) ?_
                refine lv_dup hx hb dX7_empty_139 rfl ?_
                refine M_get hx hb hts hiX7 hown hK hρ hH 30 (by decide) hf156 (v := .int (I1 30)) rfl dX7_empty_140 ?_
                refine lv_iload_n hx hb dX7_empty_143 rfl (lv_at hl 2 rfl) ?_
                refine lv_iadd hx hb dX7_empty_144 ?_
                refine M_put hx hb hts hiX7 hown hK hρ hH 30 (by decide) hf156 rfl (by decide +kernel) rfl dX7_empty_145 (fun H locs hH => ?_)
                obtain ⟨I145, eI145⟩ : ∃ z, z = va_up I1 30 ((I1 30) + (nI ac)) := ⟨_, rfl⟩
                rw [← eI145] at hH
                refine lv_aload_n hx hb dX7_empty_148 rfl (lv_at hl 0 rfl) ?_
                refine M_get hx hb hts hiX7 hown hK hρ hH 24 (by decide) hf74 (v := .ref (ad 24)) rfl dX7_empty_149 ?_
                refine lv_aload_n hx hb dX7_empty_152 rfl (lv_at hl 0 rfl) ?_
                refine M_get hx hb hts hiX7 hown hK hρ hH 4 (by decide) hf16 (v := .ref (ad 4)) rfl dX7_empty_153 ?_
                refine lv_iload_n hx hb dX7_empty_156 rfl (lv_at hl 1 rfl) ?_
                refine M_iald hx hb hK hρ hH 4 60 (by decide) t1 rfl (by omega) dX7_empty_157 ?_
                refine lv_topi (fun w157 ew157 => ?_)
                rw [show F1 4 t1 = nI (wd t1) by rw [hfF 4 (by decide) (by decide) (by decide) (by decide)]; exact hwd1] at ew157
                subst ew157
                refine lv_dup2_11 hx hb dX7_empty_158 rfl rfl ?_
                refine M_iald hx hb hK hρ hH 24 6 (by decide) (wd t1) rfl (by omega) dX7_empty_159 ?_
                refine lv_iload_n hx hb dX7_empty_160 rfl (lv_at hl 2 rfl) ?_
                refine lv_iadd hx hb dX7_empty_161 ?_
                refine M_iast hx hb hK hρ hH 24 6 (by decide) (wd t1) rfl (by omega) dX7_empty_162 (fun H locs hH => ?_)
                obtain ⟨F162, eF162⟩ : ∃ z, z = setA F1 24 (wd t1) ((F1 24 (wd t1)) + (nI ac)) := ⟨_, rfl⟩
                rw [← eF162] at hH
                refine lv_iload_n hx hb dX7_empty_163 rfl (lv_at hl 2 rfl) ?_
                exact x_iret (v := nI ac) (I145, F162) hx hb hr hlocks hK hH (by rw [hEm]; unfold emOk; rw [hop2, ix_n (by omega), hwd1, ix_n (by omega), show 4 * op t1 = k by omega, ← hS, hal, eF162, eI145]) dX7_empty_164
              · have c96 : ¬ ((op t1) * 4) ≤ k := fun zz => c96 ((nI_leI (a := ((op t1) * 4)) (b := k) (by omega) (by omega)).mpr zz)
                have hc9 : F1 14 (12 * t1 + k) = nI (cg (12 * t1 + k)) := by rw [h14 _ (by omega) (by omega)]; exact hcg _ (by omega)
                have hm9 := nsum_le (fun j => cg (12 * t1 + j)) (k + 1) (4 * op t1 - (k + 1))
                rw [show k + 1 + (4 * op t1 - (k + 1)) = 4 * op t1 by omega] at hm9
                have hm9 : nsum (fun j => cg (12 * t1 + j)) k + cg (12 * t1 + k) ≤ nsum (fun j => cg (12 * t1 + j)) (4 * op t1) := hm9
                have hm8 : cg (12 * t1 + k) ≤ 400 := hc400 k (by omega)
                refine lv_bipush (v := 12) hx hb dX7_empty_99 (by decide) ?_
                refine lv_iload_n hx hb dX7_empty_101 rfl (lv_at hl 1 rfl) ?_
                refine N_imul hx hb 12 t1 rfl rfl dX7_empty_102 ?_
                refine lv_iload hx hb dX7_empty_103 (lv_at hl 3 rfl) ?_
                refine N_iadd hx hb (12 * t1) k rfl rfl dX7_empty_105 ?_
                refine lv_istore (lv' := [(5, .int (nI ((12 * t1) + k))), (0, .ref (ad 0)), (1, .int (nI t1)), (2, .int (nI ac)), (4, .int (nI k))]) hx hb dX7_empty_106 hl (by decide) rfl (fun ls hl => ?_)
                refine lv_aload_n hx hb dX7_empty_108 rfl (lv_at hl 1 rfl) ?_
                refine lv_iload_n hx hb dX7_empty_109 rfl (lv_at hl 2 rfl) ?_
                refine lv_iload hx hb dX7_empty_110 (lv_at hl 4 rfl) ?_
                refine lv_iconst (v := 4) hx hb dX7_empty_112 (by decide) ?_
                refine N_irem hx hb k 4 rfl rfl (by omega) (by decide) (by decide) dX7_empty_113 ?_
                refine lv_aload_n hx hb dX7_empty_114 rfl (lv_at hl 1 rfl) ?_
                refine M_get hx hb hts hiX7 hown hK hρ hH 14 (by decide) hf47 (v := .ref (ad 14)) rfl dX7_empty_115 ?_
                refine lv_iload hx hb dX7_empty_118 (lv_at hl 0 rfl) ?_
                refine M_iald hx hb hK hρ hH 14 720 (by decide) ((12 * t1) + k) rfl (by omega) dX7_empty_120 ?_
                refine lv_topi (fun w120 ew120 => ?_)
                rw [hc9] at ew120
                subst ew120
                refine x_callv (va_runV (As := [.int (nI t1), .int (nI (k % 4)), .int (nI (cg (12 * t1 + k)))]) (rest := []) ⟨hx, hb, hml, hown, hts⟩ (c_X7_fills l G A ρ ad b I1 F1 hρ nT (show I1 3 = nI nT by rw [hfI 3 (by decide)]; exact hn) hT t1 (k % 4) (cg (12 * t1 + k)) nB1 hs1 ht1 (by omega) (by omega) hV1 (by omega)) (cwV 3 hts gX7_empty_X7_fills rfl rfl rfl (by decide +kernel) ⟨Nat.le_of_ble_eq_true rfl, Nat.le_of_ble_eq_true rfl⟩) (x_preV hK hH hTt (mw_ob hρ) rfl [.int (nI t1), .int (nI (k % 4)), .int (nI (cg (12 * t1 + k)))]) rfl rfl hl.1 rfl (lv_room (Nat.le_of_ble_eq_true rfl)) dX7_empty_121 ⟨Nat.le_of_ble_eq_true rfl, Nat.le_of_ble_eq_true rfl⟩) hH (fun u H locs hp hH => ?_)
                obtain ⟨I121, F121⟩ := u
                obtain ⟨e121, ⟨hs2, nB2, hV2, hcp2⟩, hfF2, hfI2⟩ := hp
                have hH : xH G A s.heap H locs (mw G ρ ad b I121 F121) := hH
                have hV2 : BV I121 F121 hs2 nB2 := hV2
                have hcp2 : capN F121 hs2 (F121 4 t1) nB2 + cg (12 * t1 + k) = capN F1 hs1 (F1 4 t1) nB1 := hcp2
                have hfF2 : ∀ q, q ≠ 17 → q ≠ 18 → q ≠ 19 → F121 q = F1 q := hfF2
                have hfI2 : ∀ q, q ≠ 16 → I121 q = I1 q := hfI2
                refine lv_aload_n hx hb dX7_empty_124 rfl (lv_at hl 1 rfl) ?_
                refine M_get hx hb hts hiX7 hown hK hρ hH 14 (by decide) hf47 (v := .ref (ad 14)) rfl dX7_empty_125 ?_
                refine lv_iload hx hb dX7_empty_128 (lv_at hl 0 rfl) ?_
                refine lv_iconst (v := 0) hx hb dX7_empty_130 (by decide) ?_
                refine M_iast hx hb hK hρ hH 14 720 (by decide) ((12 * t1) + k) rfl (by omega) dX7_empty_131 (fun H locs hH => ?_)
                obtain ⟨F131, eF131⟩ : ∃ z, z = setA F121 14 ((12 * t1) + k) 0 := ⟨_, rfl⟩
                rw [← eF131] at hH
                refine lv_iinc (v := nI (k + 1)) (lv' := [(4, .int (nI (k + 1))), (5, .int (nI ((12 * t1) + k))), (0, .ref (ad 0)), (1, .int (nI t1)), (2, .int (nI ac))]) hx hb dX7_empty_132 hl (k := 4) rfl (by exact nI_add _ 1) (by decide) rfl (fun ls hl => ?_)
                refine lv_goto (tgt := 86) hx hb dX7_empty_135 (by decide) ?_
                exact ih86 (k + 1) nB2 hs2 I121 F131 (by omega) (by omega) (by rw [eF131]; exact BV_14 hV2) (by rw [eF131, cap_14]; show _ ≤ _ + (nsum (fun j => cg (12 * t1 + j)) k + cg (12 * t1 + k)); omega) (by simp only [empS]; rw [← hS]; simp only []; rw [hc9, ix_n (by omega), ← e121, eF131]) (by intro q a b c d; rw [eF131, setA_n _ _ _ a, hfF2 q b c d]; exact hfF q a b c d) (by intro q a; rw [hfI2 q a]; exact hfI q a) (by intro j a b; rw [eF131, setA_e, if_neg (by omega), hfF2 14 (by decide) (by decide) (by decide)]; exact h14 j (by omega) b) _ _ hH ls (lv_sub hl [2, 3, 4, 0] rfl)
          · have c78 : ¬ (nB + ((((ac - OR) + 1000) - 1) / 1000)) ≤ 200 := fun zz => c78 ((nI_leI (a := (nB + ((((ac - OR) + 1000) - 1) / 1000))) (b := 200) (by omega) (by omega)).mpr zz)
            have hdv : ((nI ac - nI OR + 1000 - 1 : Int32) / 1000) = nI ((ac - OR + 1000 - 1) / 1000) := by rw [pk_sub (by omega), show nI (ac - OR) + 1000 = nI (ac - OR + 1000) from nI_add _ 1000, show nI (ac - OR + 1000) - 1 = nI (ac - OR + 1000 - 1) from pk_sub (b := 1) (by omega)]; exact pk_div (by omega) (by decide) (by decide)
            refine lv_iconst (v := (-1)) hx hb dX7_empty_81 (by decide) ?_
            exact x_iret (v := (-1)) (I, F) hx hb hr hlocks hK hH (by unfold sEmpty; rw [if_neg c5, ix_n (by omega), hal, hrm, if_neg c56b, hdv, hV.1, nI_add, if_neg (show ¬ nI (nB + (ac - OR + 1000 - 1) / 1000) ≤ (200 : Int32) from fun zz => c78 ((nI_leI (b := 200) (by omega) (by decide)).mp zz))]) dX7_empty_82
      · have c21 : ¬ (op t1) ≤ i := fun zz => c21 ((nI_leI (a := (op t1)) (b := i) (by omega) (by omega)).mpr zz)
        refine lv_iload_n hx hb dX7_empty_24 rfl (lv_at hl 2 rfl) ?_
        refine lv_aload_n hx hb dX7_empty_25 rfl (lv_at hl 0 rfl) ?_
        refine lv_iconst (v := 3) hx hb dX7_empty_26 (by decide) ?_
        refine lv_iload_n hx hb dX7_empty_27 rfl (lv_at hl 1 rfl) ?_
        refine N_imul hx hb 3 t1 rfl rfl dX7_empty_28 ?_
        refine lv_iload_n hx hb dX7_empty_29 rfl (lv_at hl 3 rfl) ?_
        refine N_iadd hx hb (3 * t1) i rfl rfl dX7_empty_30 ?_
        refine x_calli (va_runV (As := [.int (nI ((3 * t1) + i))]) (rest := [.int (nI ac)]) ⟨hx, hb, hml, hown, hts⟩ (c_X7_inCup l G A ρ ad b I F hρ ((3 * t1) + i) (by omega)) (cwV 1 hts gX7_empty_X7_inCup rfl rfl rfl (by decide +kernel) ⟨Nat.le_of_ble_eq_true rfl, Nat.le_of_ble_eq_true rfl⟩) (x_preV hK hH hTt (mw_ob hρ) rfl [.int (nI ((3 * t1) + i))]) rfl rfl hl.1 rfl (lv_room (Nat.le_of_ble_eq_true rfl)) dX7_empty_31 ⟨Nat.le_of_ble_eq_true rfl, Nat.le_of_ble_eq_true rfl⟩) hH (fun r31 u H locs hp hH => ?_)
        obtain ⟨rfl, rfl⟩ := hp
        have hH : xH G A s.heap H locs (mw G ρ ad b I F) := hH
        refine lv_topi (fun w31 ew31 => ?_)
        rw [cupS_nat hcg (show 3 * t1 + i < 180 by omega)] at ew31
        subst ew31
        refine N_iadd hx hb ac (c4 cg (3 * t1 + i)) rfl rfl dX7_empty_34 ?_
        refine lv_istore_n (lv' := [(2, .int (nI (ac + (c4 cg (3 * t1 + i))))), (0, .ref (ad 0)), (1, .int (nI t1)), (3, .int (nI i))]) hx hb dX7_empty_35 rfl hl (by decide) rfl (fun ls hl => ?_)
        refine lv_iinc (v := nI (i + 1)) (lv' := [(3, .int (nI (i + 1))), (2, .int (nI (ac + (c4 cg (3 * t1 + i))))), (0, .ref (ad 0)), (1, .int (nI t1))]) hx hb dX7_empty_36 hl (k := 3) rfl (by exact nI_add _ 1) (by decide) rfl (fun ls hl => ?_)
        refine lv_goto (tgt := 14) hx hb dX7_empty_39 (by decide) ?_
        exact ih14 (i + 1) (ac + (c4 cg (3 * t1 + i))) (by omega) (by omega) (hi3) (by rw [hacc]; rfl) _ _ hH ls (lv_sub hl [2, 3, 1, 0] rfl)
  · refine lv_iconst (v := (-1)) hx hb dX7_empty_8 (by decide) ?_
    exact x_iret (v := (-1)) (I, F) hx hb hr hlocks hK hH (by simp only [sEmpty]; rw [if_pos c5]) dX7_empty_9
