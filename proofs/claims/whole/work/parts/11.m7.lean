
/-! ORDERS: the p-th order of n, by numbers -/
def opr : Nat → Nat
  | 0 => 1
  | 1 => 1
  | 2 => 1
  | j + 3 => opr (j + 2) * (j + 2)
def onx (u : Nat) : Nat → Nat → Nat
  | 0, b => b
  | n + 1, b => if u / 2 ^ b % 2 = 1 then onx u n (b + 1) else b
def oit (u : Nat) : Nat → Nat → Nat
  | 0, b => b
  | l + 1, b => oit u l (onx u 8 (b + 1))
def ofm (m : Nat) : Nat := opr (if m < 2 then 2 else m)
def ost (n p : Nat) : Nat → Nat × Nat
  | 0 => (p, 0)
  | k + 1 => ((ost n p k).1 % ofm (n - k), (ost n p k).2 ||| 2 ^ oit (ost n p k).2 ((ost n p k).1 / ofm (n - k)) (onx (ost n p k).2 8 0))
def ob (n p k : Nat) : Nat := oit (ost n p k).2 ((ost n p k).1 / ofm (n - k)) (onx (ost n p k).2 8 0)
def ofac (n : Nat) : Nat := opr (n + 1)
def okc (n p k : Nat) : Bool := decide (ob n p k < n) && decide ((ost n p k).2 < 64) && decide ((ost n p k).1 / ofm (n - k) ≤ 5) && decide ((ost n p k).1 < 720)
def oka (n : Nat) : Bool := (List.range (ofac n)).all (fun p => (List.range n).all (fun k => okc n p k))
set_option maxRecDepth 100000 in
theorem oka1 : oka 1 = true := by decide +kernel
set_option maxRecDepth 100000 in
theorem oka2 : oka 2 = true := by decide +kernel
set_option maxRecDepth 100000 in
theorem oka3 : oka 3 = true := by decide +kernel
set_option maxRecDepth 100000 in
theorem oka4 : oka 4 = true := by decide +kernel
set_option maxRecDepth 100000 in
theorem oka5 : oka 5 = true := by decide +kernel
set_option maxRecDepth 100000 in
theorem oka6 : oka 6 = true := by decide +kernel
theorem oka_at {n p k : Nat} (hn1 : 1 ≤ n) (hn : n ≤ 6) (hp : p < ofac n) (hk : k < n) : ob n p k < n ∧ (ost n p k).2 < 64 ∧ (ost n p k).1 / ofm (n - k) ≤ 5 ∧ (ost n p k).1 < 720 := by
  have h : oka n = true := by
    rcases (show n = 1 ∨ n = 2 ∨ n = 3 ∨ n = 4 ∨ n = 5 ∨ n = 6 by omega) with rfl | rfl | rfl | rfl | rfl | rfl
    · exact oka1
    · exact oka2
    · exact oka3
    · exact oka4
    · exact oka5
    · exact oka6
  have h1 := List.all_eq_true.mp (List.all_eq_true.mp h p (List.mem_range.mpr hp)) k (List.mem_range.mpr hk)
  simp only [okc, Bool.and_eq_true, decide_eq_true_eq] at h1
  exact ⟨h1.1.1.1, h1.1.1.2, h1.1.2, h1.2⟩
theorem opr_b : ∀ i, i < 8 → 0 < opr i ∧ opr i ≤ 720 := by decide
theorem tbit {u b : Nat} (hu : u < 2 ^ 31) (hb : b < 31) : (nI u >>> (nI b &&& 31)) &&& 1 = nI (u / 2 ^ b % 2) := by
  have hs : ((nI b &&& 31).toBitVec.smod 32).toNat = b := by
    have : ∀ b, b < 31 → ((nI b &&& 31).toBitVec.smod 32).toNat = b := by decide
    exact this b hb
  rw [pk_shrN hu _ b hs]
  have h := pk_andN (n := u / 2 ^ b) (Nat.lt_of_le_of_lt (Nat.div_le_self _ _) (by omega)) (m := 1) 1 (by decide)
  exact h
theorem tshl {b : Nat} (hb : b < 30) : (1 : Int32) <<< (nI b &&& 31) = nI (2 ^ b) := by
  have : ∀ b, b < 30 → (1 : Int32) <<< (nI b &&& 31) = nI (2 ^ b) := by decide
  exact this b hb
theorem tor {u b : Nat} : nI u ||| nI b = nI (u ||| b) := by
  apply Int32.toBitVec_inj.mp
  simp [nI]
theorem bit6 {u b : Nat} (hu : u < 64) (h : u / 2 ^ b % 2 = 1) : b < 6 := by
  rcases Nat.lt_or_ge b 6 with q | q
  · exact q
  · have h1 : 2 ^ 6 ≤ 2 ^ b := Nat.pow_le_pow_right (by decide) q
    rw [Nat.div_eq_of_lt (by omega)] at h
    simp at h
theorem onx_s {u n b : Nat} (h : u / 2 ^ b % 2 = 1) : onx u (n + 1) b = onx u n (b + 1) := by simp [onx, h]
theorem onx_e {u n b : Nat} (h : ¬ u / 2 ^ b % 2 = 1) : onx u (n + 1) b = b := by simp [onx, h]
def ordA (F : Nat → Nat → Int32) (n p k : Nat) : Nat → Nat → Int32 := fun q j => if q = 35 ∧ j < k then nI (ob n p j) else F q j
theorem ordA_0 (F : Nat → Nat → Int32) (n p : Nat) : ordA F n p 0 = F := by
  funext q j
  unfold ordA
  rw [if_neg (by omega)]
theorem ordA_s (F : Nat → Nat → Int32) (n p k : Nat) : setA (ordA F n p k) 35 k (nI (ob n p k)) = ordA F n p (k + 1) := by
  funext q j
  rw [setA_e]
  unfold ordA
  by_cases h : q = 35
  · subst h
    by_cases hj : j = k
    · subst hj
      rw [if_pos ⟨rfl, rfl⟩, if_pos (by omega)]
    · rw [if_neg (by omega)]
      simp [show j < k + 1 ↔ j < k by omega]
  · simp [h]

set_option maxHeartbeats 4000000 in
set_option maxRecDepth 100000 in
theorem c_X7_orders (l : Launch) (G : XG) (A : Nat → Prop) (ρ : Nat → Option Nat) (ad : Nat → Nat) (b : XW) (I : Nat → Int32) (F : Nat → Nat → Int32) (hρ : mA ρ ad) (p0 n : Nat) (hn1 : 1 ≤ n) (hn6 : n ≤ 6) (hp : p0 < ofac n) : Met l yX7_orders wsX7_orders ({ frames := 0, cells := 0, slots := 0, locals := 0 }) (va_Pc [.ref (ad 0), .int (nI p0), .int (nI n)] (xP G A (mw G ρ ad b I F))) (va_Qv (fun (u : (Nat → Int32) × (Nat → Nat → Int32)) => u = (I, ordA F n p0 n)) (fun u t => xB G A (mw G ρ ad b u.1 u.2) t) A) 0 0 A := by
  refine Met.ofW (cc := cX7_orders) (maxL := 9) (ret := none) (by decide) rfl ?_
  intro p e s m args below meth c s₁ B hml hv
  obtain ⟨rfl, hK, hH, hTt⟩ := hv
  have hx := B.exec
  have hb := B.bytes
  have hr := B.returns
  have hts := atoms_spec (ws := wsX7_orders) B.pre
  have hown : s.vm.findClass RX7 = some m.cls := findClass_of_methodNamed B.named
  have hlocks := B.notSynchronized
  have hiX7 : ∀ w ∈ wsX70, w ∈ wsX7_orders := by decide +kernel
  have hf86 := hts (.fieldLink RX7 86 "ResinWoodsModel" "order" "[I") (by decide +kernel)
  have hl := lv_entry ([.ref (ad 0), .int (nI p0), .int (nI n)]) (n := 9) (Nat.le_of_ble_eq_true rfl)
  rw [lg_entry_eq]
  generalize (lg_sl ([.ref (ad 0), .int (nI p0), .int (nI n)]) ++ List.replicate (9 - (lg_sl ([.ref (ad 0), .int (nI p0), .int (nI n)])).length) Slot.unset).toArray = ls at hl ⊢
  have hl : lv_has ls 9 [(0, .ref (ad 0)), (1, .int (nI p0)), (2, .int (nI n))] := hl
  refine lv_iload_n hx hb dX7_orders_0 rfl (lv_at hl 1 rfl) ?_
  refine lv_istore_n (lv' := [(3, .int (nI p0)), (0, .ref (ad 0)), (1, .int (nI p0)), (2, .int (nI n))]) hx hb dX7_orders_1 rfl hl (by decide) rfl (fun ls hl => ?_)
  refine lv_iconst (v := 0) hx hb dX7_orders_2 (by decide) ?_
  refine lv_istore (lv' := [(4, .int 0), (3, .int (nI p0)), (0, .ref (ad 0)), (1, .int (nI p0)), (2, .int (nI n))]) hx hb dX7_orders_3 hl (by decide) rfl (fun ls hl => ?_)
  refine lv_iconst (v := 0) hx hb dX7_orders_5 (by decide) ?_
  refine lv_istore (lv' := [(5, .int 0), (4, .int 0), (3, .int (nI p0)), (0, .ref (ad 0)), (1, .int (nI p0)), (2, .int (nI n))]) hx hb dX7_orders_6 hl (by decide) rfl (fun ls hl => ?_)
  suffices loop8 : ∀ (k8 : Nat) (k : Nat) (rs : Nat) (us : Nat) (F1 : Nat → Nat → Int32), (n < k + k8) → (k ≤ n) → (rs = (ost n p0 k).1) → (us = (ost n p0 k).2) → (F1 = ordA F n p0 k) → ∀ (H : Heap) (locs : List Loc), xH G A s.heap H locs (mw G ρ ad b I F1) → ∀ (ls : Array Slot), lv_has ls 9 [(0, .ref (ad 0)), (1, .int (nI p0)), (2, .int (nI n)), (3, .int (nI rs)), (4, .int (nI us)), (5, .int (nI k))] → W p l e (headSpec wsX7_orders _).room s m _ below meth c H locs 0 0 (MQ below _ _ s 0 0 A) (F0 m 8 ls []) from
    loop8 (n + 1) 0 p0 0 F (by omega) (by omega) (rfl) (rfl) ((ordA_0 F n p0).symm) _ _ hH ls (lv_sub hl [3, 4, 5, 2, 1, 0] rfl)
  intro k8
  induction k8 with
  | zero =>
    intro k rs us F1 hfuel hk hrs hu0 hF H locs hH ls hl
    exact absurd hfuel (by omega)
  | succ k8 ih8 =>
    intro k rs us F1 hfuel hk hrs hu0 hF H locs hH ls hl
    refine lv_iload hx hb dX7_orders_8 (lv_at hl 5 rfl) ?_
    refine lv_iload_n hx hb dX7_orders_10 rfl (lv_at hl 2 rfl) ?_
    refine lv_icmp_ge (tgt := 128) hx hb dX7_orders_11 (by decide) (fun c11 => ?_) (fun c11 => ?_)
    · have c11 : n ≤ k := (nI_leI (a := n) (b := k) (by omega) (by omega)).mp c11
      exact x_vret (I, F1) hx hb hr hlocks hK hH (by rw [hF, show k = n by omega]) dX7_orders_128
    · have c11 : ¬ n ≤ k := fun zz => c11 ((nI_leI (a := n) (b := k) (by omega) (by omega)).mpr zz)
      refine lv_iconst (v := 1) hx hb dX7_orders_14 (by decide) ?_
      refine lv_istore (lv' := [(6, .int 1), (0, .ref (ad 0)), (1, .int (nI p0)), (2, .int (nI n)), (3, .int (nI rs)), (4, .int (nI us)), (5, .int (nI k))]) hx hb dX7_orders_15 hl (by decide) rfl (fun ls hl => ?_)
      refine lv_iconst (v := 2) hx hb dX7_orders_17 (by decide) ?_
      refine lv_istore (lv' := [(7, .int 2), (6, .int 1), (0, .ref (ad 0)), (1, .int (nI p0)), (2, .int (nI n)), (3, .int (nI rs)), (4, .int (nI us)), (5, .int (nI k))]) hx hb dX7_orders_18 hl (by decide) rfl (fun ls hl => ?_)
      suffices loop20 : ∀ (k20 : Nat) (i : Nat) (f : Nat), (n + 2 < i + k20) → (2 ≤ i) → (i ≤ 2 ∨ i ≤ n - k) → (f = opr i) → ∀ (H : Heap) (locs : List Loc), xH G A s.heap H locs (mw G ρ ad b I F1) → ∀ (ls : Array Slot), lv_has ls 9 [(0, .ref (ad 0)), (1, .int (nI p0)), (2, .int (nI n)), (3, .int (nI rs)), (4, .int (nI us)), (5, .int (nI k)), (6, .int (nI f)), (7, .int (nI i))] → W p l e (headSpec wsX7_orders _).room s m _ below meth c H locs 0 0 (MQ below _ _ s 0 0 A) (F0 m 20 ls []) from
        loop20 (n + 3) 2 1 (by omega) (by omega) (by omega) (rfl) _ _ hH ls (lv_sub hl [2, 3, 4, 5, 6, 7, 1, 0] rfl)
      intro k20
      induction k20 with
      | zero =>
        intro i f hfuel hi hi2 hf0 H locs hH ls hl
        exact absurd hfuel (by omega)
      | succ k20 ih20 =>
        intro i f hfuel hi hi2 hf0 H locs hH ls hl
        have hfb := opr_b i (by omega)
        rw [← hf0] at hfb
        obtain ⟨ho1, hus, ho3, ho4⟩ := oka_at hn1 hn6 hp (show k < n by omega)
        rw [← hrs] at ho3 ho4
        rw [← hu0] at hus
        refine lv_iload hx hb dX7_orders_20 (lv_at hl 7 rfl) ?_
        refine lv_iload_n hx hb dX7_orders_22 rfl (lv_at hl 2 rfl) ?_
        refine lv_iload hx hb dX7_orders_23 (lv_at hl 5 rfl) ?_
        refine N_isub hx hb n k rfl rfl (by omega) dX7_orders_25 ?_
        refine lv_icmp_ge (tgt := 42) hx hb dX7_orders_26 (by decide) (fun c26 => ?_) (fun c26 => ?_)
        · have c26 : (n - k) ≤ i := (nI_leI (a := (n - k)) (b := i) (by omega) (by omega)).mp c26
          have hf : f = ofm (n - k) := by unfold ofm; split <;> (rw [hf0]; congr 1; omega)
          rw [← hf] at ho3
          refine lv_iload_n hx hb dX7_orders_42 rfl (lv_at hl 3 rfl) ?_
          refine lv_iload hx hb dX7_orders_43 (lv_at hl 6 rfl) ?_
          refine N_idiv hx hb rs f rfl rfl (by omega) (by omega) (by omega) dX7_orders_45 ?_
          refine lv_istore (lv' := [(7, .int (nI (rs / f))), (0, .ref (ad 0)), (1, .int (nI p0)), (2, .int (nI n)), (3, .int (nI rs)), (4, .int (nI us)), (5, .int (nI k)), (6, .int (nI f))]) hx hb dX7_orders_46 hl (by decide) rfl (fun ls hl => ?_)
          refine lv_iload_n hx hb dX7_orders_48 rfl (lv_at hl 4 rfl) ?_
          refine lv_iload hx hb dX7_orders_49 (lv_at hl 7 rfl) ?_
          refine N_irem hx hb rs f rfl rfl (by omega) (by omega) (by omega) dX7_orders_51 ?_
          refine lv_istore_n (lv' := [(3, .int (nI (rs % f))), (7, .int (nI (rs / f))), (0, .ref (ad 0)), (1, .int (nI p0)), (2, .int (nI n)), (4, .int (nI us)), (5, .int (nI k)), (6, .int (nI f))]) hx hb dX7_orders_52 rfl hl (by decide) rfl (fun ls hl => ?_)
          refine lv_iconst (v := 0) hx hb dX7_orders_53 (by decide) ?_
          refine lv_istore (lv' := [(8, .int 0), (3, .int (nI (rs % f))), (7, .int (nI (rs / f))), (0, .ref (ad 0)), (1, .int (nI p0)), (2, .int (nI n)), (4, .int (nI us)), (5, .int (nI k)), (6, .int (nI f))]) hx hb dX7_orders_54 hl (by decide) rfl (fun ls hl => ?_)
          suffices loop56 : ∀ (k56 : Nat) (b0 : Nat), (7 < b0 + k56) → (b0 ≤ 6) → (onx us (8 - b0) b0 = onx us 8 0) → ∀ (H : Heap) (locs : List Loc), xH G A s.heap H locs (mw G ρ ad b I F1) → ∀ (ls : Array Slot), lv_has ls 9 [(0, .ref (ad 0)), (1, .int (nI p0)), (2, .int (nI n)), (4, .int (nI us)), (5, .int (nI k)), (7, .int (nI (rs / f))), (3, .int (nI (rs % f))), (8, .int (nI b0))] → W p l e (headSpec wsX7_orders _).room s m _ below meth c H locs 0 0 (MQ below _ _ s 0 0 A) (F0 m 56 ls []) from
            loop56 8 0 (by omega) (by omega) (rfl) _ _ hH ls (lv_sub hl [3, 4, 5, 6, 7, 2, 1, 0] rfl)
          intro k56
          induction k56 with
          | zero =>
            intro b0 hfuel hb0 hx0 H locs hH ls hl
            exact absurd hfuel (by omega)
          | succ k56 ih56 =>
            intro b0 hfuel hb0 hx0 H locs hH ls hl
            refine lv_iload hx hb dX7_orders_56 (lv_at hl 3 rfl) ?_
            refine lv_iload hx hb dX7_orders_58 (lv_at hl 7 rfl) ?_
            refine lv_ishr hx hb dX7_orders_60 ?_
            refine lv_iconst (v := 1) hx hb dX7_orders_61 (by decide) ?_
            refine lv_iand hx hb dX7_orders_62 ?_
            refine lv_iconst (v := 1) hx hb dX7_orders_63 (by decide) ?_
            refine lv_icmp_ne (tgt := 73) hx hb dX7_orders_64 (by decide) (fun c64 => ?_) (fun c64 => ?_)
            · rw [tbit (by omega) (by omega)] at c64
              have c64 : ¬ us / 2 ^ b0 % 2 = 1 := fun zz => c64 ((nI_eq (b := 1) (by omega) (by decide)).mpr zz)
              suffices loop73 : ∀ (k73 : Nat) (lf : Nat) (b1 : Nat), (lf < k73) → (lf ≤ 5) → (b1 + lf ≤ 11) → (oit us (rs / f) (onx us 8 0) = oit us lf b1) → ∀ (H : Heap) (locs : List Loc), xH G A s.heap H locs (mw G ρ ad b I F1) → ∀ (ls : Array Slot), lv_has ls 9 [(0, .ref (ad 0)), (1, .int (nI p0)), (2, .int (nI n)), (4, .int (nI us)), (5, .int (nI k)), (3, .int (nI (rs % f))), (7, .int (nI lf)), (8, .int (nI b1))] → W p l e (headSpec wsX7_orders _).room s m _ below meth c H locs 0 0 (MQ below _ _ s 0 0 A) (F0 m 73 ls []) from
                loop73 (rs / f + 1) (rs / f) b0 (by omega) (by omega) (by omega) (by rw [← hx0, show 8 - b0 = (7 - b0) + 1 by omega, onx_e c64]) _ _ hH ls (lv_sub hl [0, 1, 2, 3, 4, 6, 5, 7] rfl)
              intro k73
              induction k73 with
              | zero =>
                intro lf b1 hfuel hlf hb1 hlb H locs hH ls hl
                exact absurd hfuel (by omega)
              | succ k73 ih73 =>
                intro lf b1 hfuel hlf hb1 hlb H locs hH ls hl
                refine lv_iload hx hb dX7_orders_73 (lv_at hl 6 rfl) ?_
                refine lv_if_le (tgt := 104) hx hb dX7_orders_75 (by decide) (fun c75 => ?_) (fun c75 => ?_)
                · have c75 : lf ≤ 0 := (nI_leI (a := lf) (b := 0) (by omega) (by omega)).mp c75
                  have hl0 : lf = 0 := by omega
                  have hlb : oit us (rs / f) (onx us 8 0) = b1 := by rw [hlb, hl0]; rfl
                  refine lv_aload_n hx hb dX7_orders_104 rfl (lv_at hl 0 rfl) ?_
                  refine M_get hx hb hts hiX7 hown hK hρ hH 35 (by decide) hf86 (v := .ref (ad 35)) rfl dX7_orders_105 ?_
                  refine lv_iload hx hb dX7_orders_108 (lv_at hl 4 rfl) ?_
                  refine lv_iload hx hb dX7_orders_110 (lv_at hl 7 rfl) ?_
                  refine M_iast hx hb hK hρ hH 35 6 (by decide) k rfl (by omega) dX7_orders_112 (fun H locs hH => ?_)
                  obtain ⟨F112, eF112⟩ : ∃ z, z = setA F1 35 k (nI b1) := ⟨_, rfl⟩
                  rw [← eF112] at hH
                  refine lv_iload hx hb dX7_orders_113 (lv_at hl 3 rfl) ?_
                  refine lv_iconst (v := 1) hx hb dX7_orders_115 (by decide) ?_
                  refine lv_iload hx hb dX7_orders_116 (lv_at hl 7 rfl) ?_
                  refine lv_ishl hx hb dX7_orders_118 ?_
                  refine lv_ior hx hb dX7_orders_119 ?_
                  refine lv_topi (fun w120 ew120 => ?_)
                  rw [tshl (by omega), tor] at ew120
                  subst ew120
                  refine lv_istore (lv' := [(4, .int (nI (us ||| 2 ^ b1))), (0, .ref (ad 0)), (1, .int (nI p0)), (2, .int (nI n)), (5, .int (nI k)), (3, .int (nI (rs % f))), (7, .int (nI lf)), (8, .int (nI b1))]) hx hb dX7_orders_120 hl (by decide) rfl (fun ls hl => ?_)
                  refine lv_iinc (v := nI (k + 1)) (lv' := [(5, .int (nI (k + 1))), (4, .int (nI (us ||| 2 ^ b1))), (0, .ref (ad 0)), (1, .int (nI p0)), (2, .int (nI n)), (3, .int (nI (rs % f))), (7, .int (nI lf)), (8, .int (nI b1))]) hx hb dX7_orders_122 hl (k := 4) rfl (by exact nI_add _ 1) (by decide) rfl (fun ls hl => ?_)
                  refine lv_goto (tgt := 8) hx hb dX7_orders_125 (by decide) ?_
                  exact ih8 (k + 1) (rs % f) (us ||| 2 ^ b1) F112 (by omega) (by omega) (by rw [hrs, hf]; rfl) (by simp only [ost]; rw [← hu0, ← hrs, ← hf]; rw [hlb]) (by rw [eF112, hF, ← ordA_s]; congr 1; simp only [ob]; rw [← hu0, ← hrs, ← hf, hlb]) _ _ hH ls (lv_sub hl [2, 3, 4, 5, 1, 0] rfl)
                · have c75 : ¬ lf ≤ 0 := fun zz => c75 ((nI_leI (a := lf) (b := 0) (by omega) (by omega)).mpr zz)
                  refine lv_iinc (v := nI (b1 + 1)) (lv' := [(8, .int (nI (b1 + 1))), (0, .ref (ad 0)), (1, .int (nI p0)), (2, .int (nI n)), (4, .int (nI us)), (5, .int (nI k)), (3, .int (nI (rs % f))), (7, .int (nI lf))]) hx hb dX7_orders_78 hl (k := 7) rfl (by exact nI_add _ 1) (by decide) rfl (fun ls hl => ?_)
                  suffices loop81 : ∀ (k81 : Nat) (b2 : Nat), (12 < b2 + k81) → (b1 + 1 ≤ b2) → (b2 ≤ b1 + 1 ∨ b2 ≤ 6) → (onx us (8 - (b2 - (b1 + 1))) b2 = onx us 8 (b1 + 1)) → ∀ (H : Heap) (locs : List Loc), xH G A s.heap H locs (mw G ρ ad b I F1) → ∀ (ls : Array Slot), lv_has ls 9 [(0, .ref (ad 0)), (1, .int (nI p0)), (2, .int (nI n)), (4, .int (nI us)), (5, .int (nI k)), (3, .int (nI (rs % f))), (7, .int (nI lf)), (8, .int (nI b2))] → W p l e (headSpec wsX7_orders _).room s m _ below meth c H locs 0 0 (MQ below _ _ s 0 0 A) (F0 m 81 ls []) from
                    loop81 13 (b1 + 1) (by omega) (by omega) (by omega) (by rw [Nat.sub_self]) _ _ hH ls (lv_sub hl [1, 2, 3, 4, 5, 6, 7, 0] rfl)
                  intro k81
                  induction k81 with
                  | zero =>
                    intro b2 hfuel hb2 hb3 hx2 H locs hH ls hl
                    exact absurd hfuel (by omega)
                  | succ k81 ih81 =>
                    intro b2 hfuel hb2 hb3 hx2 H locs hH ls hl
                    refine lv_iload hx hb dX7_orders_81 (lv_at hl 3 rfl) ?_
                    refine lv_iload hx hb dX7_orders_83 (lv_at hl 7 rfl) ?_
                    refine lv_ishr hx hb dX7_orders_85 ?_
                    refine lv_iconst (v := 1) hx hb dX7_orders_86 (by decide) ?_
                    refine lv_iand hx hb dX7_orders_87 ?_
                    refine lv_iconst (v := 1) hx hb dX7_orders_88 (by decide) ?_
                    refine lv_icmp_ne (tgt := 98) hx hb dX7_orders_89 (by decide) (fun c89 => ?_) (fun c89 => ?_)
                    · rw [tbit (by omega) (by omega)] at c89
                      have c89 : ¬ us / 2 ^ b2 % 2 = 1 := fun zz => c89 ((nI_eq (b := 1) (by omega) (by decide)).mpr zz)
                      refine lv_iinc (v := nI (lf - 1)) (lv' := [(7, .int (nI (lf - 1))), (0, .ref (ad 0)), (1, .int (nI p0)), (2, .int (nI n)), (4, .int (nI us)), (5, .int (nI k)), (3, .int (nI (rs % f))), (8, .int (nI b2))]) hx hb dX7_orders_98 hl (k := 6) rfl (by rw [show lf = lf - 1 + 1 by omega]; exact pk_m1 _) (by decide) rfl (fun ls hl => ?_)
                      refine lv_goto (tgt := 73) hx hb dX7_orders_101 (by decide) ?_
                      exact ih73 (lf - 1) b2 (by omega) (by omega) (by omega) (by rw [hlb, show lf = (lf - 1) + 1 by omega]; show oit us (lf - 1) (onx us 8 (b1 + 1)) = _; rw [← hx2, show 8 - (b2 - (b1 + 1)) = (7 - (b2 - (b1 + 1))) + 1 by omega, onx_e c89]; rfl) _ _ hH ls (lv_sub hl [1, 2, 3, 4, 5, 6, 0, 7] rfl)
                    · rw [tbit (by omega) (by omega)] at c89
                      have c89 : us / 2 ^ b2 % 2 = 1 := (nI_eq (b := 1) (by omega) (by decide)).mp c89
                      have hb6 := bit6 hus c89
                      refine lv_iinc (v := nI (b2 + 1)) (lv' := [(8, .int (nI (b2 + 1))), (0, .ref (ad 0)), (1, .int (nI p0)), (2, .int (nI n)), (4, .int (nI us)), (5, .int (nI k)), (3, .int (nI (rs % f))), (7, .int (nI lf))]) hx hb dX7_orders_92 hl (k := 7) rfl (by exact nI_add _ 1) (by decide) rfl (fun ls hl => ?_)
                      refine lv_goto (tgt := 81) hx hb dX7_orders_95 (by decide) ?_
                      exact ih81 (b2 + 1) (by omega) (by omega) (by omega) (by rw [← hx2, show 8 - (b2 - (b1 + 1)) = (8 - (b2 + 1 - (b1 + 1))) + 1 by omega, onx_s c89]) _ _ hH ls (lv_sub hl [1, 2, 3, 4, 5, 6, 7, 0] rfl)
            · rw [tbit (by omega) (by omega)] at c64
              have c64 : us / 2 ^ b0 % 2 = 1 := (nI_eq (b := 1) (by omega) (by decide)).mp c64
              have hb6 := bit6 hus c64
              refine lv_iinc (v := nI (b0 + 1)) (lv' := [(8, .int (nI (b0 + 1))), (0, .ref (ad 0)), (1, .int (nI p0)), (2, .int (nI n)), (4, .int (nI us)), (5, .int (nI k)), (7, .int (nI (rs / f))), (3, .int (nI (rs % f)))]) hx hb dX7_orders_67 hl (k := 7) rfl (by exact nI_add _ 1) (by decide) rfl (fun ls hl => ?_)
              refine lv_goto (tgt := 56) hx hb dX7_orders_70 (by decide) ?_
              exact ih56 (b0 + 1) (by omega) (by omega) (by rw [← hx0, show 8 - b0 = (8 - (b0 + 1)) + 1 by omega, onx_s c64]) _ _ hH ls (lv_sub hl [1, 2, 3, 4, 5, 6, 7, 0] rfl)
        · have c26 : ¬ (n - k) ≤ i := fun zz => c26 ((nI_leI (a := (n - k)) (b := i) (by omega) (by omega)).mpr zz)
          refine lv_iload hx hb dX7_orders_29 (lv_at hl 6 rfl) ?_
          refine lv_iload hx hb dX7_orders_31 (lv_at hl 7 rfl) ?_
          refine N_imul hx hb f i rfl rfl dX7_orders_33 ?_
          refine lv_istore (lv' := [(6, .int (nI (f * i))), (0, .ref (ad 0)), (1, .int (nI p0)), (2, .int (nI n)), (3, .int (nI rs)), (4, .int (nI us)), (5, .int (nI k)), (7, .int (nI i))]) hx hb dX7_orders_34 hl (by decide) rfl (fun ls hl => ?_)
          refine lv_iinc (v := nI (i + 1)) (lv' := [(7, .int (nI (i + 1))), (6, .int (nI (f * i))), (0, .ref (ad 0)), (1, .int (nI p0)), (2, .int (nI n)), (3, .int (nI rs)), (4, .int (nI us)), (5, .int (nI k))]) hx hb dX7_orders_36 hl (k := 7) rfl (by exact nI_add _ 1) (by decide) rfl (fun ls hl => ?_)
          refine lv_goto (tgt := 20) hx hb dX7_orders_39 (by decide) ?_
          exact ih20 (i + 1) (f * i) (by omega) (by omega) (by omega) (by rw [hf0]; obtain ⟨z, rfl⟩ : ∃ z, i = z + 2 := ⟨i - 2, by omega⟩; rfl) _ _ hH ls (lv_sub hl [2, 3, 4, 5, 6, 7, 1, 0] rfl)
