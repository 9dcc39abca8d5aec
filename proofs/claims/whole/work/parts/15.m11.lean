
theorem fdC_eq {F F1 : Nat → Nat → Int32} (h1 : F1 1 = F 1) (h2 : F1 2 = F 2) (h8 : F1 8 = F 8) (h12 : F1 12 = F 12) (h13 : F1 13 = F 13) (t f day : Nat) (c : Nat → Int32) : fdC F1 t f day c = fdC F t f day c := by
  simp only [fdC, gradI, h1, h2, h8, h12, h13]
theorem fsim_eq {F F1 : Nat → Nat → Int32} (h1 : F1 1 = F 1) (h2 : F1 2 = F 2) (h8 : F1 8 = F 8) (h12 : F1 12 = F 12) (h13 : F1 13 = F 13) (h14 : F1 14 = F 14) (t f now : Nat) : ∀ d, fsim F1 t f now d = fsim F t f now d
  | 0 => by simp only [fsim, h14]
  | d + 1 => by simp only [fsim, fsim_eq h1 h2 h8 h12 h13 h14 t f now d, fdC_eq h1 h2 h8 h12 h13]
theorem ovS_eq {F F1 : Nat → Nat → Int32} (h : ∀ q, q ≠ 33 → q ≠ 34 → F1 q = F q) (t now o d : Nat) : ovS F1 t now o d = ovS F t now o d := by
  unfold ovS
  exact lsum_cong (fun i _ => by rw [fsim_eq (h 1 (by decide) (by decide)) (h 2 (by decide) (by decide)) (h 8 (by decide) (by decide)) (h 12 (by decide) (by decide)) (h 13 (by decide) (by decide)) (h 14 (by decide) (by decide))])
/-! A WALK -/
def sW (low high : Int32) : List Nat := slT (ix low) (ix high) 60
theorem chI_ok {low high : Int32} {nT : Nat} (h : ¬ chI low high nT = -1) : chI low high nT = nI (sW low high).length ∧ okS (sW low high) nT = true := by
  unfold chI at h ⊢
  by_cases a : low < 0
  · rw [if_pos a] at h; exact absurd rfl h
  rw [if_neg a] at h ⊢
  by_cases b : low >>> (30 &&& 31) = 0
  · rw [if_pos b] at h ⊢
    by_cases c : high < 0
    · rw [if_pos c] at h; exact absurd rfl h
    rw [if_neg c] at h ⊢
    by_cases d : high >>> (30 &&& 31) = 0
    · rw [if_pos d] at h ⊢
      by_cases e : okS (slT (ix low) (ix high) 60) nT = true
      · rw [if_pos e]
        exact ⟨rfl, e⟩
      · rw [if_neg e] at h; exact absurd rfl h
    · rw [if_neg d] at h; exact absurd rfl h
  · rw [if_neg b] at h; exact absurd rfl h
theorem getD_mem {S : List Nat} {k : Nat} (h : k < S.length) : S.getD k 0 ∈ S := by
  rw [List.getD_eq_getElem?_getD, List.getElem?_eq_getElem h]
  exact List.getElem_mem h
def wdist (x y u v : Nat) : Nat := (if u ≤ x then x - u else u - x) + (if v ≤ y then y - v else v - y)
theorem apI_nat {x y u v : Nat} (hx : x ≤ 99) (hy : y ≤ 99) (hu : u ≤ 99) (hv : v ≤ 99) : apI (nI x) (nI y) (nI u) (nI v) = nI (wdist x y u v) := by
  unfold apI wdist
  rw [← nI_add]
  congr 1
  · by_cases h : u ≤ x
    · rw [if_pos ((nI_leI (by omega) (by omega)).mpr h), if_pos h, pk_sub h]
    · rw [if_neg (fun z => h ((nI_leI (by omega) (by omega)).mp z)), if_neg h, pk_sub (by omega)]
  · by_cases h : v ≤ y
    · rw [if_pos ((nI_leI (by omega) (by omega)).mpr h), if_pos h, pk_sub h]
    · rw [if_neg (fun z => h ((nI_leI (by omega) (by omega)).mp z)), if_neg h, pk_sub (by omega)]
theorem wdist_le {x y u v : Nat} (hx : x ≤ 99) (hy : y ≤ 99) (hu : u ≤ 99) (hv : v ≤ 99) : wdist x y u v ≤ 198 := by
  unfold wdist
  split <;> split <;> omega
def wst (S : List Nat) (px py : Nat → Nat) (x0 y0 : Nat) (o : Nat → Nat) : Nat → Nat × Nat × Nat
  | 0 => (0, x0, y0)
  | k + 1 => ((wst S px py x0 y0 o k).1 + wdist (wst S px py x0 y0 o k).2.1 (wst S px py x0 y0 o k).2.2 (px (S.getD (o k) 0)) (py (S.getD (o k) 0)), px (S.getD (o k) 0), py (S.getD (o k) 0))
def wov (F : Nat → Nat → Int32) (now : Nat) (op : Nat → Nat) (S : List Nat) (px py : Nat → Nat) (x0 y0 : Nat) (o : Nat → Nat) : Nat → Int32
  | 0 => 0
  | k + 1 => wov F now op S px py x0 y0 o k + ovS F (S.getD (o k) 0) now (op (S.getD (o k) 0)) ((wst S px py x0 y0 o (k + 1)).1 / 60)
def wO (F : Nat → Nat → Int32) (now : Nat) (op : Nat → Nat) (S : List Nat) (px py : Nat → Nat) (x0 y0 p : Nat) : Int32 := wov F now op S px py x0 y0 (ob S.length p) S.length
def wN (S : List Nat) (px py : Nat → Nat) (x0 y0 p : Nat) : Nat := (wst S px py x0 y0 (ob S.length p) S.length).1
/-- whether the p-th order is to be kept before the q-th -/
def wbet (F : Nat → Nat → Int32) (now : Nat) (op : Nat → Nat) (S : List Nat) (px py : Nat → Nat) (x0 y0 p q : Nat) : Bool := if wO F now op S px py x0 y0 q = -1 then true else if wO F now op S px py x0 y0 q < wO F now op S px py x0 y0 p then false else if wO F now op S px py x0 y0 p = wO F now op S px py x0 y0 q then decide (wN S px py x0 y0 p < wN S px py x0 y0 q) else true
def bidx (F : Nat → Nat → Int32) (now : Nat) (op : Nat → Nat) (S : List Nat) (px py : Nat → Nat) (x0 y0 : Nat) : Nat → Nat
  | 0 => 0
  | p + 1 => if p = 0 then 0 else if wbet F now op S px py x0 y0 p (bidx F now op S px py x0 y0 p) = true then p else bidx F now op S px py x0 y0 p
def wR (low high wh : Int32) (nT : Nat) : Int32 := if binI wh 0 9999 = 0 then -1 else chI low high nT
theorem ofac_b : ∀ n, n < 7 → 0 < ofac n ∧ ofac n ≤ 720 := by decide


theorem ordA_n35 (F : Nat → Nat → Int32) (n p k : Nat) {q : Nat} (h : q ≠ 35) : ordA F n p k q = F q := by
  funext j
  unfold ordA
  rw [if_neg (by omega)]
theorem ordA_at (F : Nat → Nat → Int32) {n p k j : Nat} (h : j < k) : ordA F n p k 35 j = nI (ob n p j) := by
  unfold ordA
  rw [if_pos ⟨rfl, h⟩]
theorem wst_b {S : List Nat} {px py : Nat → Nat} {x0 y0 : Nat} {o : Nat → Nat} {nT : Nat} (hp : ∀ t, t < nT → px t ≤ 99 ∧ py t ≤ 99) (hS : ∀ x ∈ S, x < nT) (hx : x0 ≤ 99) (hy : y0 ≤ 99) : ∀ k, (∀ j, j < k → o j < S.length) → (wst S px py x0 y0 o k).1 ≤ 198 * k ∧ (wst S px py x0 y0 o k).2.1 ≤ 99 ∧ (wst S px py x0 y0 o k).2.2 ≤ 99
  | 0, _ => ⟨Nat.zero_le _, hx, hy⟩
  | k + 1, h => by
    have ih := wst_b hp hS hx hy k (fun j hj => h j (by omega))
    have ht := hp _ (hS _ (getD_mem (h k (by omega))))
    refine ⟨?_, ht.1, ht.2⟩
    show (wst S px py x0 y0 o k).1 + wdist _ _ _ _ ≤ 198 * (k + 1)
    have := wdist_le ih.2.1 ih.2.2 ht.1 ht.2
    omega

set_option maxHeartbeats 4000000 in
set_option maxRecDepth 100000 in
theorem c_X7_walks (l : Launch) (G : XG) (A : Nat → Prop) (ρ : Nat → Option Nat) (ad : Nat → Nat) (b : XW) (I : Nat → Int32) (F : Nat → Nat → Int32) (hρ : mA ρ ad) (nT : Nat) (hn : I 3 = nI nT) (hT : nT ≤ 60) (now : Nat) (hw : I 0 = nI now) (hN : now ≤ 3650) (op : Nat → Nat) (hop : ∀ t, t < nT → F 9 t = nI (op t) ∧ op t ≤ 3) (hoy : ∀ t, t < nT → ∀ i, i < op t → ∃ oy, F 13 (3 * t + i) = nI oy ∧ oy ≤ now / 365) (px py : Nat → Nat) (hpx : ∀ t, t < nT → F 5 t = nI (px t) ∧ px t ≤ 99 ∧ F 6 t = nI (py t) ∧ py t ≤ 99) (low high wh : Int32) : Met l yX7_walks wsX7_walks ({ frames := 2, cells := 6, slots := 72, locals := 55 }) (va_Pc [.ref (ad 0), .int low, .int high, .int wh] (xP G A (mw G ρ ad b I F))) (va_Qi (fun (r : Int32) (u : (Nat → Int32) × (Nat → Nat → Int32)) => r = wR low high wh nT ∧ (∀ q, q ≠ 33 → q ≠ 34 → q ≠ 35 → q ≠ 36 → u.2 q = F q) ∧ (∀ q, q ≠ 37 → q ≠ 38 → u.1 q = I q) ∧ (¬ r = -1 → okS (sW low high) nT = true ∧ bidx F now op (sW low high) px py (ix wh / 100) (ix wh % 100) (ofac (sW low high).length) < ofac (sW low high).length ∧ (∀ k, k < (sW low high).length → u.2 33 k = nI ((sW low high).getD k 0)) ∧ u.1 37 = wO F now op (sW low high) px py (ix wh / 100) (ix wh % 100) (bidx F now op (sW low high) px py (ix wh / 100) (ix wh % 100) (ofac (sW low high).length)) ∧ u.1 38 = nI (wN (sW low high) px py (ix wh / 100) (ix wh % 100) (bidx F now op (sW low high) px py (ix wh / 100) (ix wh % 100) (ofac (sW low high).length))) ∧ ∀ k, k < (sW low high).length → u.2 36 k = nI (ob (sW low high).length (bidx F now op (sW low high) px py (ix wh / 100) (ix wh % 100) (ofac (sW low high).length)) k))) (fun u t => xB G A (mw G ρ ad b u.1 u.2) t) A) 6 72 A := by
  refine Met.ofW (cc := cX7_walks) (maxL := 13) (ret := (some .int)) (by decide) rfl ?_
  intro p e s m args below meth c s₁ B hml hv
  obtain ⟨rfl, hK, hH, hTt⟩ := hv
  have hx := B.exec
  have hb := B.bytes
  have hr := B.returns
  have hts := atoms_spec (ws := wsX7_walks) B.pre
  have hown : s.vm.findClass RX7 = some m.cls := findClass_of_methodNamed B.named
  have hlocks := B.notSynchronized
  have hiX7 : ∀ w ∈ wsX70, w ∈ wsX7_walks := by decide +kernel
  have hf19 := hts (.fieldLink RX7 19 "ResinWoodsModel" "placeX" "[I") (by decide +kernel)
  have hf22 := hts (.fieldLink RX7 22 "ResinWoodsModel" "placeY" "[I") (by decide +kernel)
  have hf80 := hts (.fieldLink RX7 80 "ResinWoodsModel" "chosen" "[I") (by decide +kernel)
  have hf83 := hts (.fieldLink RX7 83 "ResinWoodsModel" "runsOver" "[I") (by decide +kernel)
  have hf86 := hts (.fieldLink RX7 86 "ResinWoodsModel" "order" "[I") (by decide +kernel)
  have hf89 := hts (.fieldLink RX7 89 "ResinWoodsModel" "best" "[I") (by decide +kernel)
  have hf189 := hts (.fieldLink RX7 189 "ResinWoodsModel" "bestOver" "I") (by decide +kernel)
  have hf200 := hts (.fieldLink RX7 200 "ResinWoodsModel" "bestSteps" "I") (by decide +kernel)
  have hl := lv_entry ([.ref (ad 0), .int low, .int high, .int wh]) (n := 13) (Nat.le_of_ble_eq_true rfl)
  rw [lg_entry_eq]
  generalize (lg_sl ([.ref (ad 0), .int low, .int high, .int wh]) ++ List.replicate (13 - (lg_sl ([.ref (ad 0), .int low, .int high, .int wh])).length) Slot.unset).toArray = ls at hl ⊢
  have hl : lv_has ls 13 [(0, .ref (ad 0)), (1, .int low), (2, .int high), (3, .int wh)] := hl
  refine lv_iload_n hx hb dX7_walks_0 rfl (lv_at hl 3 rfl) ?_
  refine lv_iconst (v := 0) hx hb dX7_walks_1 (by decide) ?_
  refine lv_sipush (v := 9999) hx hb dX7_walks_2 (by decide) ?_
  refine x_calli (va_runS (As := [.int wh, .int 0, .int 9999]) (rest := []) ⟨hx, hb, hml, hown, hts⟩ (c_X7_in l G A (mw G ρ ad b I F) wh 0 9999) (va_cwS 3 hts gX7_walks_X7_in rfl rfl rfl (by decide +kernel) ⟨Nat.le_of_ble_eq_true rfl, Nat.le_of_ble_eq_true rfl⟩) (x_preS hK hH hTt [.int wh, .int 0, .int 9999]) rfl rfl hl.1 rfl (lv_room (Nat.le_of_ble_eq_true rfl)) dX7_walks_5 ⟨Nat.le_of_ble_eq_true rfl, Nat.le_of_ble_eq_true rfl⟩) hH (fun r5 u H locs hp hH => ?_)
  subst hp
  have hH : xH G A s.heap H locs (mw G ρ ad b I F) := hH
  refine lv_if_eq (tgt := 20) hx hb dX7_walks_8 (by decide) (fun c8 => ?_) (fun c8 => ?_)
  · refine lv_iconst (v := (-1)) hx hb dX7_walks_20 (by decide) ?_
    refine lv_istore (lv' := [(4, .int (-1)), (0, .ref (ad 0)), (1, .int low), (2, .int high), (3, .int wh)]) hx hb dX7_walks_21 hl (by decide) rfl (fun ls hl => ?_)
    refine lv_iload hx hb dX7_walks_23 (lv_at hl 0 rfl) ?_
    refine lv_iconst (v := (-1)) hx hb dX7_walks_25 (by decide) ?_
    refine lv_icmp_ne (tgt := 31) hx hb dX7_walks_26 (by decide) (fun c26 => ?_) (fun c26 => ?_)
    · exact absurd rfl c26
    · refine lv_iconst (v := (-1)) hx hb dX7_walks_29 (by decide) ?_
      refine W.widen (k := 6) (n := 72) (Nat.le_of_ble_eq_true rfl) (Nat.le_of_ble_eq_true rfl) ?_
      exact x_iret (v := (-1)) (I, F) hx hb hr hlocks hK hH (⟨by unfold wR; rw [if_pos c8], fun _ _ _ _ _ => rfl, fun _ _ _ => rfl, fun z => absurd rfl z⟩) dX7_walks_30
  · obtain ⟨w0, hw00, hw01, rfl⟩ := inI_nat (a := 0) (b := 9999) (binI_1.mp c8) (by omega) (by omega)
    have hw0 : ix (nI w0) = w0 := ix_n (by omega)
    refine lv_aload_n hx hb dX7_walks_11 rfl (lv_at hl 0 rfl) ?_
    refine lv_iload_n hx hb dX7_walks_12 rfl (lv_at hl 1 rfl) ?_
    refine lv_iload_n hx hb dX7_walks_13 rfl (lv_at hl 2 rfl) ?_
    refine x_calli (va_runV (As := [.int low, .int high]) (rest := []) ⟨hx, hb, hml, hown, hts⟩ (c_X7_chooses l G A ρ ad b I F hρ nT hn hT low high) (cwV 2 hts gX7_walks_X7_chooses rfl rfl rfl (by decide +kernel) ⟨Nat.le_of_ble_eq_true rfl, Nat.le_of_ble_eq_true rfl⟩) (x_preV hK hH hTt (mw_ob hρ) rfl [.int low, .int high]) rfl rfl hl.1 rfl (lv_room (Nat.le_of_ble_eq_true rfl)) dX7_walks_14 ⟨Nat.le_of_ble_eq_true rfl, Nat.le_of_ble_eq_true rfl⟩) hH (fun r14 u H locs hp hH => ?_)
    obtain ⟨I14, F14⟩ := u
    obtain ⟨hr14, hI14, hfr14, hch14⟩ := hp
    have hI14 : I14 = I := hI14
    have hH : xH G A s.heap H locs (mw G ρ ad b I F14) := by rw [← hI14]; exact hH
    have hfr14 : ∀ q, q ≠ 33 → F14 q = F q := hfr14
    have hch14 : ¬ r14 = -1 → ∀ k, k < (sW low high).length → F14 33 k = nI ((sW low high).getD k 0) := hch14
    refine lv_goto (tgt := 21) hx hb dX7_walks_17 (by decide) ?_
    refine lv_istore (lv' := [(4, .int r14), (0, .ref (ad 0)), (1, .int low), (2, .int high), (3, .int (nI w0))]) hx hb dX7_walks_21 hl (by decide) rfl (fun ls hl => ?_)
    refine lv_iload hx hb dX7_walks_23 (lv_at hl 0 rfl) ?_
    refine lv_iconst (v := (-1)) hx hb dX7_walks_25 (by decide) ?_
    refine lv_icmp_ne (tgt := 31) hx hb dX7_walks_26 (by decide) (fun c26 => ?_) (fun c26 => ?_)
    · have hcn : ¬ chI low high nT = -1 := by rw [← hr14]; exact c26
      obtain ⟨hc1, hc2⟩ := chI_ok hcn
      obtain ⟨hS1, hS6, hSn⟩ := okS_iff.mp hc2
      have hch := hch14 c26
      have hr9 : r14 = nI (sW low high).length := hr14.trans hc1
      obtain ⟨n, hnS⟩ : ∃ n, n = (sW low high).length := ⟨_, rfl⟩
      rw [← hnS] at hS1 hS6 hch hr9
      have hwR : wR low high (nI w0) nT = nI n := by unfold wR; rw [if_neg c8, ← hr14, hr9]
      subst hr9
      refine lv_iconst (v := 0) hx hb dX7_walks_31 (by decide) ?_
      refine lv_istore (lv' := [(5, .int 0), (4, .int (nI n)), (0, .ref (ad 0)), (1, .int low), (2, .int high), (3, .int (nI w0))]) hx hb dX7_walks_32 hl (by decide) rfl (fun ls hl => ?_)
      suffices loop34 : ∀ (k34 : Nat) (k : Nat) (F1 : Nat → Nat → Int32), (n < k + k34) → (k ≤ n) → (∀ q, q ≠ 33 → q ≠ 34 → F1 q = F q) → (∀ j, j < n → F1 33 j = nI ((sW low high).getD j 0)) → (∀ j, j < k → ∀ d, d < 24 → F1 34 (24 * j + d) = ovS F ((sW low high).getD j 0) now (op ((sW low high).getD j 0)) d) → ∀ (H : Heap) (locs : List Loc), xH G A s.heap H locs (mw G ρ ad b I F1) → ∀ (ls : Array Slot), lv_has ls 13 [(0, .ref (ad 0)), (1, .int low), (2, .int high), (3, .int (nI w0)), (4, .int (nI n)), (5, .int (nI k))] → W p l e (headSpec wsX7_walks _).room s m _ below meth c H locs k (12 * k) (MQ below _ _ s 6 72 A) (F0 m 34 ls []) from
        loop34 (n + 1) 0 F14 (by omega) (by omega) (fun q a _ => hfr14 q a) (hch) (fun j hj => absurd hj (by omega)) _ _ hH ls (lv_sub hl [2, 3, 4, 5, 1, 0] rfl)
      intro k34
      induction k34 with
      | zero =>
        intro k F1 hfuel hk hf1 hch1 hro H locs hH ls hl
        exact absurd hfuel (by omega)
      | succ k34 ih34 =>
        intro k F1 hfuel hk hf1 hch1 hro H locs hH ls hl
        refine lv_iload hx hb dX7_walks_34 (lv_at hl 5 rfl) ?_
        refine lv_iload hx hb dX7_walks_36 (lv_at hl 4 rfl) ?_
        refine lv_icmp_ge (tgt := 53) hx hb dX7_walks_38 (by decide) (fun c38 => ?_) (fun c38 => ?_)
        · have c38 : n ≤ k := (nI_leI (a := n) (b := k) (by omega) (by omega)).mp c38
          refine W.widen (k := 6) (n := 72) (by omega) (by omega) ?_
          have hkn : k = n := by omega
          refine lv_iconst (v := 1) hx hb dX7_walks_53 (by decide) ?_
          refine lv_istore (lv' := [(5, .int 1), (0, .ref (ad 0)), (1, .int low), (2, .int high), (3, .int (nI w0)), (4, .int (nI n))]) hx hb dX7_walks_54 hl (by decide) rfl (fun ls hl => ?_)
          refine lv_iconst (v := 2) hx hb dX7_walks_56 (by decide) ?_
          refine lv_istore (lv' := [(6, .int 2), (5, .int 1), (0, .ref (ad 0)), (1, .int low), (2, .int high), (3, .int (nI w0)), (4, .int (nI n))]) hx hb dX7_walks_57 hl (by decide) rfl (fun ls hl => ?_)
          suffices loop59 : ∀ (k59 : Nat) (i : Nat) (al : Nat), (n + 2 < i + k59) → (2 ≤ i) → (i ≤ 2 ∨ i ≤ n + 1) → (al = opr i) → ∀ (H : Heap) (locs : List Loc), xH G A s.heap H locs (mw G ρ ad b I F1) → ∀ (ls : Array Slot), lv_has ls 13 [(0, .ref (ad 0)), (1, .int low), (2, .int high), (3, .int (nI w0)), (4, .int (nI n)), (5, .int (nI al)), (6, .int (nI i))] → W p l e (headSpec wsX7_walks _).room s m _ below meth c H locs 6 72 (MQ below _ _ s 6 72 A) (F0 m 59 ls []) from
            loop59 (n + 3) 2 1 (by omega) (by omega) (by omega) (rfl) _ _ hH ls (lv_sub hl [2, 3, 4, 5, 6, 1, 0] rfl)
          intro k59
          induction k59 with
          | zero =>
            intro i al hfuel hi hi2 hal H locs hH ls hl
            exact absurd hfuel (by omega)
          | succ k59 ih59 =>
            intro i al hfuel hi hi2 hal H locs hH ls hl
            have hab := opr_b i (by omega)
            rw [← hal] at hab
            refine lv_iload hx hb dX7_walks_59 (lv_at hl 6 rfl) ?_
            refine lv_iload hx hb dX7_walks_61 (lv_at hl 4 rfl) ?_
            refine lv_icmp_gt (tgt := 79) hx hb dX7_walks_63 (by decide) (fun c63 => ?_) (fun c63 => ?_)
            · have c63 : n < i := (nI_ltI (a := n) (b := i) (by omega) (by omega)).mp c63
              have hal2 : al = ofac n := by rw [hal]; unfold ofac; rcases (show i = n + 1 ∨ (i = 2 ∧ n = 1) by omega) with q | ⟨q, q2⟩; rw [q]; rw [q, q2]
              refine lv_aload_n hx hb dX7_walks_79 rfl (lv_at hl 0 rfl) ?_
              refine lv_iconst (v := (-1)) hx hb dX7_walks_80 (by decide) ?_
              refine M_put hx hb hts hiX7 hown hK hρ hH 37 (by decide) hf189 rfl (by decide +kernel) rfl dX7_walks_81 (fun H locs hH => ?_)
              obtain ⟨I81, eI81⟩ : ∃ z, z = va_up I 37 (-1) := ⟨_, rfl⟩
              rw [← eI81] at hH
              refine lv_iconst (v := 0) hx hb dX7_walks_84 (by decide) ?_
              refine lv_istore (lv' := [(6, .int 0), (0, .ref (ad 0)), (1, .int low), (2, .int high), (3, .int (nI w0)), (4, .int (nI n)), (5, .int (nI al))]) hx hb dX7_walks_85 hl (by decide) rfl (fun ls hl => ?_)
              suffices loop87 : ∀ (k87 : Nat) (pn : Nat) (I1 : Nat → Int32) (F2 : Nat → Nat → Int32), (al < pn + k87) → (pn ≤ al) → (∀ q, q ≠ 35 → q ≠ 36 → F2 q = F1 q) → (∀ q, q ≠ 37 → q ≠ 38 → I1 q = I q) → (pn = 0 → I1 37 = -1) → (¬ pn = 0 → I1 37 = wO F now op (sW low high) px py (w0 / 100) (w0 % 100) (bidx F now op (sW low high) px py (w0 / 100) (w0 % 100) pn) ∧ I1 38 = nI (wN (sW low high) px py (w0 / 100) (w0 % 100) (bidx F now op (sW low high) px py (w0 / 100) (w0 % 100) pn)) ∧ bidx F now op (sW low high) px py (w0 / 100) (w0 % 100) pn < pn ∧ ∀ j, j < n → F2 36 j = nI (ob n (bidx F now op (sW low high) px py (w0 / 100) (w0 % 100) pn) j)) → ∀ (H : Heap) (locs : List Loc), xH G A s.heap H locs (mw G ρ ad b I1 F2) → ∀ (ls : Array Slot), lv_has ls 13 [(0, .ref (ad 0)), (1, .int low), (2, .int high), (3, .int (nI w0)), (4, .int (nI n)), (5, .int (nI al)), (6, .int (nI pn))] → W p l e (headSpec wsX7_walks _).room s m _ below meth c H locs 6 72 (MQ below _ _ s 6 72 A) (F0 m 87 ls []) from
                loop87 (al + 1) 0 I81 F1 (by omega) (by omega) (fun _ _ _ => rfl) (fun q a _ => by rw [eI81, up_n _ _ a]) (fun _ => by rw [eI81, up_k]) (fun z => absurd rfl z) _ _ hH ls (lv_sub hl [1, 2, 3, 4, 5, 6, 0] rfl)
              intro k87
              induction k87 with
              | zero =>
                intro pn I1 F2 hfuel hp hf2 hfi hp0 hp1 H locs hH ls hl
                exact absurd hfuel (by omega)
              | succ k87 ih87 =>
                intro pn I1 F2 hfuel hp hf2 hfi hp0 hp1 H locs hH ls hl
                refine lv_iload hx hb dX7_walks_87 (lv_at hl 6 rfl) ?_
                refine lv_iload hx hb dX7_walks_89 (lv_at hl 5 rfl) ?_
                refine lv_icmp_ge (tgt := 306) hx hb dX7_walks_91 (by decide) (fun c91 => ?_) (fun c91 => ?_)
                · have c91 : al ≤ pn := (nI_leI (a := al) (b := pn) (by omega) (by omega)).mp c91
                  refine lv_iload hx hb dX7_walks_306 (lv_at hl 4 rfl) ?_
                  refine W.widen (k := 6) (n := 72) (Nat.le_of_ble_eq_true rfl) (Nat.le_of_ble_eq_true rfl) ?_
                  exact x_iret (v := nI n) (I1, F2) hx hb hr hlocks hK hH (by have hpa : pn = ofac n := (by rw [← hal2]; omega); have hpz : ¬ pn = 0 := (by have := (ofac_b n (by omega)).1; omega); obtain ⟨y1, y2, y3, y4⟩ := hp1 hpz; rw [hpa] at y1 y2 y3 y4; exact ⟨hwR.symm, fun q a b c d => (hf2 q c d).trans (hf1 q a b), hfi, fun _ => by rw [hw0, ← hnS]; exact ⟨hc2, y3, fun k hk => by rw [show (I1, F2).2 33 = F2 33 from rfl, hf2 33 (by decide) (by decide)]; exact hch1 k hk, y1, y2, y4⟩⟩) dX7_walks_308
                · have c91 : ¬ al ≤ pn := fun zz => c91 ((nI_leI (a := al) (b := pn) (by omega) (by omega)).mpr zz)
                  refine lv_aload_n hx hb dX7_walks_94 rfl (lv_at hl 0 rfl) ?_
                  refine lv_iload hx hb dX7_walks_95 (lv_at hl 6 rfl) ?_
                  refine lv_iload hx hb dX7_walks_97 (lv_at hl 4 rfl) ?_
                  refine x_callv (va_runV (As := [.int (nI pn), .int (nI n)]) (rest := []) ⟨hx, hb, hml, hown, hts⟩ (c_X7_orders l G A ρ ad b I1 F2 hρ pn n hS1 hS6 (by rw [← hal2]; omega)) (cwV 2 hts gX7_walks_X7_orders rfl rfl rfl (by decide +kernel) ⟨Nat.le_of_ble_eq_true rfl, Nat.le_of_ble_eq_true rfl⟩) (x_preV hK hH hTt (mw_ob hρ) rfl [.int (nI pn), .int (nI n)]) rfl rfl hl.1 rfl (lv_room (Nat.le_of_ble_eq_true rfl)) dX7_walks_99 ⟨Nat.le_of_ble_eq_true rfl, Nat.le_of_ble_eq_true rfl⟩) hH (fun u H locs hp hH => ?_)
                  obtain ⟨I99, F99⟩ := u
                  have e99 := hp
                  have hH : xH G A s.heap H locs (mw G ρ ad b I99 F99) := hH
                  have hI99 : I99 = I1 := congrArg Prod.fst e99
                  have e99 : F99 = ordA F2 n pn n := congrArg Prod.snd e99
                  rw [hI99] at hH
                  have hq9 : ∀ q, q ≠ 33 → q ≠ 34 → q ≠ 35 → q ≠ 36 → F99 q = F q := fun q a b c d => by rw [e99, ordA_n35 _ _ _ _ c, hf2 q c d]; exact hf1 q a b
                  have hob : ∀ j, j < n → ob n pn j < n := fun j hj => (oka_at hS1 hS6 (by rw [← hal2]; omega) hj).1
                  have hwb := wst_b (S := sW low high) (px := px) (py := py) (x0 := w0 / 100) (y0 := w0 % 100) (o := ob n pn) (nT := nT) (fun t ht => ⟨(hpx t ht).2.1, (hpx t ht).2.2.2⟩) hSn (by omega) (by omega)
                  refine lv_iconst (v := 0) hx hb dX7_walks_102 (by decide) ?_
                  refine lv_istore (lv' := [(7, .int 0), (0, .ref (ad 0)), (1, .int low), (2, .int high), (3, .int (nI w0)), (4, .int (nI n)), (5, .int (nI al)), (6, .int (nI pn))]) hx hb dX7_walks_103 hl (by decide) rfl (fun ls hl => ?_)
                  refine lv_iconst (v := 0) hx hb dX7_walks_105 (by decide) ?_
                  refine lv_istore (lv' := [(8, .int 0), (7, .int 0), (0, .ref (ad 0)), (1, .int low), (2, .int high), (3, .int (nI w0)), (4, .int (nI n)), (5, .int (nI al)), (6, .int (nI pn))]) hx hb dX7_walks_106 hl (by decide) rfl (fun ls hl => ?_)
                  refine lv_iload_n hx hb dX7_walks_108 rfl (lv_at hl 5 rfl) ?_
                  refine lv_bipush (v := 100) hx hb dX7_walks_109 (by decide) ?_
                  refine N_idiv hx hb w0 100 rfl rfl (by omega) (by decide) (by decide) dX7_walks_111 ?_
                  refine lv_istore (lv' := [(9, .int (nI (w0 / 100))), (8, .int 0), (7, .int 0), (0, .ref (ad 0)), (1, .int low), (2, .int high), (3, .int (nI w0)), (4, .int (nI n)), (5, .int (nI al)), (6, .int (nI pn))]) hx hb dX7_walks_112 hl (by decide) rfl (fun ls hl => ?_)
                  refine lv_iload_n hx hb dX7_walks_114 rfl (lv_at hl 6 rfl) ?_
                  refine lv_bipush (v := 100) hx hb dX7_walks_115 (by decide) ?_
                  refine N_irem hx hb w0 100 rfl rfl (by omega) (by decide) (by decide) dX7_walks_117 ?_
                  refine lv_istore (lv' := [(10, .int (nI (w0 % 100))), (9, .int (nI (w0 / 100))), (8, .int 0), (7, .int 0), (0, .ref (ad 0)), (1, .int low), (2, .int high), (3, .int (nI w0)), (4, .int (nI n)), (5, .int (nI al)), (6, .int (nI pn))]) hx hb dX7_walks_118 hl (by decide) rfl (fun ls hl => ?_)
                  refine lv_iconst (v := 0) hx hb dX7_walks_120 (by decide) ?_
                  refine lv_istore (lv' := [(11, .int 0), (10, .int (nI (w0 % 100))), (9, .int (nI (w0 / 100))), (8, .int 0), (7, .int 0), (0, .ref (ad 0)), (1, .int low), (2, .int high), (3, .int (nI w0)), (4, .int (nI n)), (5, .int (nI al)), (6, .int (nI pn))]) hx hb dX7_walks_121 hl (by decide) rfl (fun ls hl => ?_)
                  suffices loop123 : ∀ (k123 : Nat) (k2 : Nat) (stp : Nat) (sm : Int32) (xx : Nat) (yy : Nat), (n < k2 + k123) → (k2 ≤ n) → ((stp, xx, yy) = (wst (sW low high) px py (w0 / 100) (w0 % 100) (ob n pn) k2)) → (sm = wov F now op (sW low high) px py (w0 / 100) (w0 % 100) (ob n pn) k2) → ∀ (H : Heap) (locs : List Loc), xH G A s.heap H locs (mw G ρ ad b I1 F99) → ∀ (ls : Array Slot), lv_has ls 13 [(0, .ref (ad 0)), (1, .int low), (2, .int high), (3, .int (nI w0)), (4, .int (nI n)), (5, .int (nI al)), (6, .int (nI pn)), (7, .int (nI stp)), (8, .int sm), (9, .int (nI xx)), (10, .int (nI yy)), (11, .int (nI k2))] → W p l e (headSpec wsX7_walks _).room s m _ below meth c H locs 6 72 (MQ below _ _ s 6 72 A) (F0 m 123 ls []) from
                    loop123 (n + 1) 0 0 0 (w0 / 100) (w0 % 100) (by omega) (by omega) (rfl) (rfl) _ _ hH ls (lv_sub hl [5, 6, 7, 8, 9, 10, 11, 4, 3, 2, 1, 0] rfl)
                  intro k123
                  induction k123 with
                  | zero =>
                    intro k2 stp sm xx yy hfuel hk2 hst hsm H locs hH ls hl
                    exact absurd hfuel (by omega)
                  | succ k123 ih123 =>
                    intro k2 stp sm xx yy hfuel hk2 hst hsm H locs hH ls hl
                    have hb1 := hwb k2 (fun j hj => by rw [← hnS]; exact hob j (by omega))
                    rw [← hst] at hb1
                    obtain ⟨hb1, hb2, hb3⟩ := hb1
                    have hb1 : stp ≤ 198 * k2 := hb1
                    have hb2 : xx ≤ 99 := hb2
                    have hb3 : yy ≤ 99 := hb3
                    refine lv_iload hx hb dX7_walks_123 (lv_at hl 11 rfl) ?_
                    refine lv_iload hx hb dX7_walks_125 (lv_at hl 4 rfl) ?_
                    refine lv_icmp_ge (tgt := 220) hx hb dX7_walks_127 (by decide) (fun c127 => ?_) (fun c127 => ?_)
                    · have c127 : n ≤ k2 := (nI_leI (a := n) (b := k2) (by omega) (by omega)).mp c127
                      have hk9 : k2 = n := by omega
                      have hsm2 : sm = wO F now op (sW low high) px py (w0 / 100) (w0 % 100) pn := by rw [hsm, hk9]; unfold wO; rw [← hnS]
                      have hst2 : stp = wN (sW low high) px py (w0 / 100) (w0 % 100) pn := by unfold wN; rw [← hnS]; have z8 := congrArg Prod.fst hst; rw [hk9] at z8; exact z8
                      refine lv_aload_n hx hb dX7_walks_220 rfl (lv_at hl 0 rfl) ?_
                      have hwb9 : ¬ pn = 0 → wN (sW low high) px py (w0 / 100) (w0 % 100) (bidx F now op (sW low high) px py (w0 / 100) (w0 % 100) pn) ≤ 1188 := fun hz => by
                        obtain ⟨-, -, y3, -⟩ := hp1 hz
                        unfold wN
                        rw [← hnS]
                        have y9 := (wst_b (S := sW low high) (px := px) (py := py) (x0 := w0 / 100) (y0 := w0 % 100) (o := ob n (bidx F now op (sW low high) px py (w0 / 100) (w0 % 100) pn)) (nT := nT) (fun t ht => ⟨(hpx t ht).2.1, (hpx t ht).2.2.2⟩) hSn (by omega) (by omega) n (fun j hj => by rw [← hnS]; exact (oka_at hS1 hS6 (by rw [← hal2]; omega) hj).1)).1
                        omega
                      refine M_get hx hb hts hiX7 hown hK hρ hH 37 (by decide) hf189 (v := .int (I1 37)) rfl dX7_walks_221 ?_
                      refine lv_iconst (v := (-1)) hx hb dX7_walks_224 (by decide) ?_
                      refine lv_icmp_eq (tgt := 258) hx hb dX7_walks_225 (by decide) (fun c225 => ?_) (fun c225 => ?_)
                      · have hbx : bidx F now op (sW low high) px py (w0 / 100) (w0 % 100) (pn + 1) = pn := by
                          by_cases hz : pn = 0
                          · simp only [bidx]; rw [if_pos hz, hz]
                          · obtain ⟨y1, y2, -⟩ := hp1 hz
                            simp only [bidx]; rw [if_neg hz, if_pos]; unfold wbet; rw [← y1, ← hsm2, ← hst2]
                            first | (rw [if_pos c225]; done) | (rw [if_neg c225, if_neg c234]; first | (rw [if_neg c243]; done) | (rw [if_pos c243]; rw [y2] at c252; exact decide_eq_true ((nI_ltI (by omega) (by have z9 := hwb9 hz; omega)).mp c252)))
                        refine lv_aload_n hx hb dX7_walks_258 rfl (lv_at hl 0 rfl) ?_
                        refine lv_iload hx hb dX7_walks_259 (lv_at hl 8 rfl) ?_
                        refine M_put hx hb hts hiX7 hown hK hρ hH 37 (by decide) hf189 rfl (by decide +kernel) rfl dX7_walks_261 (fun H locs hH => ?_)
                        obtain ⟨I261, eI261⟩ : ∃ z, z = va_up I1 37 sm := ⟨_, rfl⟩
                        rw [← eI261] at hH
                        refine lv_aload_n hx hb dX7_walks_264 rfl (lv_at hl 0 rfl) ?_
                        refine lv_iload hx hb dX7_walks_265 (lv_at hl 7 rfl) ?_
                        refine M_put hx hb hts hiX7 hown hK hρ hH 38 (by decide) hf200 rfl (by decide +kernel) rfl dX7_walks_267 (fun H locs hH => ?_)
                        obtain ⟨I267, eI267⟩ : ∃ z, z = va_up I261 38 (nI stp) := ⟨_, rfl⟩
                        rw [← eI267] at hH
                        refine lv_iconst (v := 0) hx hb dX7_walks_270 (by decide) ?_
                        refine lv_istore (lv' := [(11, .int 0), (0, .ref (ad 0)), (1, .int low), (2, .int high), (3, .int (nI w0)), (4, .int (nI n)), (5, .int (nI al)), (6, .int (nI pn)), (7, .int (nI stp)), (8, .int sm), (9, .int (nI xx)), (10, .int (nI yy))]) hx hb dX7_walks_271 hl (by decide) rfl (fun ls hl => ?_)
                        suffices loop273 : ∀ (k273 : Nat) (k3 : Nat) (F4 : Nat → Nat → Int32), (n < k3 + k273) → (k3 ≤ n) → (∀ q, q ≠ 36 → F4 q = F99 q) → (∀ j, j < k3 → F4 36 j = nI (ob n pn j)) → ∀ (H : Heap) (locs : List Loc), xH G A s.heap H locs (mw G ρ ad b I267 F4) → ∀ (ls : Array Slot), lv_has ls 13 [(0, .ref (ad 0)), (1, .int low), (2, .int high), (3, .int (nI w0)), (4, .int (nI n)), (5, .int (nI al)), (6, .int (nI pn)), (11, .int (nI k3))] → W p l e (headSpec wsX7_walks _).room s m _ below meth c H locs 6 72 (MQ below _ _ s 6 72 A) (F0 m 273 ls []) from
                          loop273 (n + 1) 0 F99 (by omega) (by omega) (fun _ _ => rfl) (fun j hj => absurd hj (by omega)) _ _ hH ls (lv_sub hl [1, 2, 3, 4, 5, 6, 7, 0] rfl)
                        intro k273
                        induction k273 with
                        | zero =>
                          intro k3 F4 hfuel hk3 hf4 hb4 H locs hH ls hl
                          exact absurd hfuel (by omega)
                        | succ k273 ih273 =>
                          intro k3 F4 hfuel hk3 hf4 hb4 H locs hH ls hl
                          refine lv_iload hx hb dX7_walks_273 (lv_at hl 7 rfl) ?_
                          refine lv_iload hx hb dX7_walks_275 (lv_at hl 4 rfl) ?_
                          refine lv_icmp_ge (tgt := 300) hx hb dX7_walks_277 (by decide) (fun c277 => ?_) (fun c277 => ?_)
                          · have c277 : n ≤ k3 := (nI_leI (a := n) (b := k3) (by omega) (by omega)).mp c277
                            refine lv_iinc (v := nI (pn + 1)) (lv' := [(6, .int (nI (pn + 1))), (0, .ref (ad 0)), (1, .int low), (2, .int high), (3, .int (nI w0)), (4, .int (nI n)), (5, .int (nI al)), (11, .int (nI k3))]) hx hb dX7_walks_300 hl (k := 6) rfl (by exact nI_add _ 1) (by decide) rfl (fun ls hl => ?_)
                            refine lv_goto (tgt := 87) hx hb dX7_walks_303 (by decide) ?_
                            exact ih87 (pn + 1) I267 F4 (by omega) (by omega) (by intro q a b; rw [hf4 q b, e99, ordA_n35 _ _ _ _ a]; exact hf2 q a b) (by intro q a b; rw [eI267, up_n _ _ b, eI261, up_n _ _ a]; exact hfi q a b) (by omega) (by intro _; rw [hbx]; exact ⟨by rw [eI267, up_n _ _ (by decide), eI261, up_k, hsm2], by rw [eI267, up_k, hst2], by omega, fun j hj => by rw [hb4 j (by omega)]⟩) _ _ hH ls (lv_sub hl [1, 2, 3, 4, 5, 6, 0] rfl)
                          · have c277 : ¬ n ≤ k3 := fun zz => c277 ((nI_leI (a := n) (b := k3) (by omega) (by omega)).mpr zz)
                            refine lv_aload_n hx hb dX7_walks_280 rfl (lv_at hl 0 rfl) ?_
                            refine M_get hx hb hts hiX7 hown hK hρ hH 36 (by decide) hf89 (v := .ref (ad 36)) rfl dX7_walks_281 ?_
                            refine lv_iload hx hb dX7_walks_284 (lv_at hl 7 rfl) ?_
                            refine lv_aload_n hx hb dX7_walks_286 rfl (lv_at hl 0 rfl) ?_
                            refine M_get hx hb hts hiX7 hown hK hρ hH 35 (by decide) hf86 (v := .ref (ad 35)) rfl dX7_walks_287 ?_
                            refine lv_iload hx hb dX7_walks_290 (lv_at hl 7 rfl) ?_
                            refine M_iald hx hb hK hρ hH 35 6 (by decide) k3 rfl (by omega) dX7_walks_292 ?_
                            refine lv_topi (fun w292 ew292 => ?_)
                            rw [show F4 35 k3 = nI (ob n pn k3) by rw [hf4 35 (by decide), e99]; exact ordA_at _ (by omega)] at ew292
                            subst ew292
                            refine M_iast hx hb hK hρ hH 36 6 (by decide) k3 rfl (by omega) dX7_walks_293 (fun H locs hH => ?_)
                            obtain ⟨F293, eF293⟩ : ∃ z, z = setA F4 36 k3 (nI (ob n pn k3)) := ⟨_, rfl⟩
                            rw [← eF293] at hH
                            refine lv_iinc (v := nI (k3 + 1)) (lv' := [(11, .int (nI (k3 + 1))), (0, .ref (ad 0)), (1, .int low), (2, .int high), (3, .int (nI w0)), (4, .int (nI n)), (5, .int (nI al)), (6, .int (nI pn))]) hx hb dX7_walks_294 hl (k := 7) rfl (by exact nI_add _ 1) (by decide) rfl (fun ls hl => ?_)
                            refine lv_goto (tgt := 273) hx hb dX7_walks_297 (by decide) ?_
                            exact ih273 (k3 + 1) F293 (by omega) (by omega) (by intro q a; rw [eF293, setA_n _ _ _ a]; exact hf4 q a) (by intro j hj; rw [eF293, setA_e]; by_cases q : j = k3; (rw [if_pos ⟨rfl, q⟩, q]); (rw [if_neg (by omega)]; exact hb4 j (by omega))) _ _ hH ls (lv_sub hl [1, 2, 3, 4, 5, 6, 7, 0] rfl)
                      · refine lv_iload hx hb dX7_walks_228 (lv_at hl 8 rfl) ?_
                        refine lv_aload_n hx hb dX7_walks_230 rfl (lv_at hl 0 rfl) ?_
                        refine M_get hx hb hts hiX7 hown hK hρ hH 37 (by decide) hf189 (v := .int (I1 37)) rfl dX7_walks_231 ?_
                        refine lv_icmp_gt (tgt := 300) hx hb dX7_walks_234 (by decide) (fun c234 => ?_) (fun c234 => ?_)
                        · have hpz : ¬ pn = 0 := fun z => c225 (hp0 z)
                          have hbx : bidx F now op (sW low high) px py (w0 / 100) (w0 % 100) (pn + 1) = bidx F now op (sW low high) px py (w0 / 100) (w0 % 100) pn := by
                            obtain ⟨y1, y2, -⟩ := hp1 hpz
                            simp only [bidx]; rw [if_neg hpz, if_neg]; unfold wbet; rw [← y1, ← hsm2, ← hst2, if_neg c225]
                            first | (rw [if_pos c234]; decide) | (rw [if_neg c234, if_pos c243]; rw [y2] at c252; have z9 := hwb9 hpz; simp; exact Nat.le_of_not_lt (fun z => c252 ((nI_ltI (by omega) (by omega)).mpr z)))
                          refine lv_iinc (v := nI (pn + 1)) (lv' := [(6, .int (nI (pn + 1))), (0, .ref (ad 0)), (1, .int low), (2, .int high), (3, .int (nI w0)), (4, .int (nI n)), (5, .int (nI al)), (7, .int (nI stp)), (8, .int sm), (9, .int (nI xx)), (10, .int (nI yy)), (11, .int (nI k2))]) hx hb dX7_walks_300 hl (k := 6) rfl (by exact nI_add _ 1) (by decide) rfl (fun ls hl => ?_)
                          refine lv_goto (tgt := 87) hx hb dX7_walks_303 (by decide) ?_
                          exact ih87 (pn + 1) I1 F99 (by omega) (by omega) (by intro q a b; rw [e99, ordA_n35 _ _ _ _ a]; exact hf2 q a b) (hfi) (by omega) (by intro _; obtain ⟨y1, y2, y3, y4⟩ := hp1 hpz; rw [hbx]; exact ⟨y1, y2, by omega, fun j hj => by rw [e99, ordA_n35 _ _ _ _ (by decide)]; exact y4 j hj⟩) _ _ hH ls (lv_sub hl [1, 2, 3, 4, 5, 6, 0] rfl)
                        · refine lv_iload hx hb dX7_walks_237 (lv_at hl 8 rfl) ?_
                          refine lv_aload_n hx hb dX7_walks_239 rfl (lv_at hl 0 rfl) ?_
                          refine M_get hx hb hts hiX7 hown hK hρ hH 37 (by decide) hf189 (v := .int (I1 37)) rfl dX7_walks_240 ?_
                          refine lv_icmp_ne (tgt := 258) hx hb dX7_walks_243 (by decide) (fun c243 => ?_) (fun c243 => ?_)
                          · have hbx : bidx F now op (sW low high) px py (w0 / 100) (w0 % 100) (pn + 1) = pn := by
                              by_cases hz : pn = 0
                              · simp only [bidx]; rw [if_pos hz, hz]
                              · obtain ⟨y1, y2, -⟩ := hp1 hz
                                simp only [bidx]; rw [if_neg hz, if_pos]; unfold wbet; rw [← y1, ← hsm2, ← hst2]
                                first | (rw [if_pos c225]; done) | (rw [if_neg c225, if_neg c234]; first | (rw [if_neg c243]; done) | (rw [if_pos c243]; rw [y2] at c252; exact decide_eq_true ((nI_ltI (by omega) (by have z9 := hwb9 hz; omega)).mp c252)))
                            refine lv_aload_n hx hb dX7_walks_258 rfl (lv_at hl 0 rfl) ?_
                            refine lv_iload hx hb dX7_walks_259 (lv_at hl 8 rfl) ?_
                            refine M_put hx hb hts hiX7 hown hK hρ hH 37 (by decide) hf189 rfl (by decide +kernel) rfl dX7_walks_261 (fun H locs hH => ?_)
                            obtain ⟨I261, eI261⟩ : ∃ z, z = va_up I1 37 sm := ⟨_, rfl⟩
                            rw [← eI261] at hH
                            refine lv_aload_n hx hb dX7_walks_264 rfl (lv_at hl 0 rfl) ?_
                            refine lv_iload hx hb dX7_walks_265 (lv_at hl 7 rfl) ?_
                            refine M_put hx hb hts hiX7 hown hK hρ hH 38 (by decide) hf200 rfl (by decide +kernel) rfl dX7_walks_267 (fun H locs hH => ?_)
                            obtain ⟨I267, eI267⟩ : ∃ z, z = va_up I261 38 (nI stp) := ⟨_, rfl⟩
                            rw [← eI267] at hH
                            refine lv_iconst (v := 0) hx hb dX7_walks_270 (by decide) ?_
                            refine lv_istore (lv' := [(11, .int 0), (0, .ref (ad 0)), (1, .int low), (2, .int high), (3, .int (nI w0)), (4, .int (nI n)), (5, .int (nI al)), (6, .int (nI pn)), (7, .int (nI stp)), (8, .int sm), (9, .int (nI xx)), (10, .int (nI yy))]) hx hb dX7_walks_271 hl (by decide) rfl (fun ls hl => ?_)
                            suffices loop273 : ∀ (k273 : Nat) (k3 : Nat) (F4 : Nat → Nat → Int32), (n < k3 + k273) → (k3 ≤ n) → (∀ q, q ≠ 36 → F4 q = F99 q) → (∀ j, j < k3 → F4 36 j = nI (ob n pn j)) → ∀ (H : Heap) (locs : List Loc), xH G A s.heap H locs (mw G ρ ad b I267 F4) → ∀ (ls : Array Slot), lv_has ls 13 [(0, .ref (ad 0)), (1, .int low), (2, .int high), (3, .int (nI w0)), (4, .int (nI n)), (5, .int (nI al)), (6, .int (nI pn)), (11, .int (nI k3))] → W p l e (headSpec wsX7_walks _).room s m _ below meth c H locs 6 72 (MQ below _ _ s 6 72 A) (F0 m 273 ls []) from
                              loop273 (n + 1) 0 F99 (by omega) (by omega) (fun _ _ => rfl) (fun j hj => absurd hj (by omega)) _ _ hH ls (lv_sub hl [1, 2, 3, 4, 5, 6, 7, 0] rfl)
                            intro k273
                            induction k273 with
                            | zero =>
                              intro k3 F4 hfuel hk3 hf4 hb4 H locs hH ls hl
                              exact absurd hfuel (by omega)
                            | succ k273 ih273 =>
                              intro k3 F4 hfuel hk3 hf4 hb4 H locs hH ls hl
                              refine lv_iload hx hb dX7_walks_273 (lv_at hl 7 rfl) ?_
                              refine lv_iload hx hb dX7_walks_275 (lv_at hl 4 rfl) ?_
                              refine lv_icmp_ge (tgt := 300) hx hb dX7_walks_277 (by decide) (fun c277 => ?_) (fun c277 => ?_)
                              · have c277 : n ≤ k3 := (nI_leI (a := n) (b := k3) (by omega) (by omega)).mp c277
                                refine lv_iinc (v := nI (pn + 1)) (lv' := [(6, .int (nI (pn + 1))), (0, .ref (ad 0)), (1, .int low), (2, .int high), (3, .int (nI w0)), (4, .int (nI n)), (5, .int (nI al)), (11, .int (nI k3))]) hx hb dX7_walks_300 hl (k := 6) rfl (by exact nI_add _ 1) (by decide) rfl (fun ls hl => ?_)
                                refine lv_goto (tgt := 87) hx hb dX7_walks_303 (by decide) ?_
                                exact ih87 (pn + 1) I267 F4 (by omega) (by omega) (by intro q a b; rw [hf4 q b, e99, ordA_n35 _ _ _ _ a]; exact hf2 q a b) (by intro q a b; rw [eI267, up_n _ _ b, eI261, up_n _ _ a]; exact hfi q a b) (by omega) (by intro _; rw [hbx]; exact ⟨by rw [eI267, up_n _ _ (by decide), eI261, up_k, hsm2], by rw [eI267, up_k, hst2], by omega, fun j hj => by rw [hb4 j (by omega)]⟩) _ _ hH ls (lv_sub hl [1, 2, 3, 4, 5, 6, 0] rfl)
                              · have c277 : ¬ n ≤ k3 := fun zz => c277 ((nI_leI (a := n) (b := k3) (by omega) (by omega)).mpr zz)
                                refine lv_aload_n hx hb dX7_walks_280 rfl (lv_at hl 0 rfl) ?_
                                refine M_get hx hb hts hiX7 hown hK hρ hH 36 (by decide) hf89 (v := .ref (ad 36)) rfl dX7_walks_281 ?_
                                refine lv_iload hx hb dX7_walks_284 (lv_at hl 7 rfl) ?_
                                refine lv_aload_n hx hb dX7_walks_286 rfl (lv_at hl 0 rfl) ?_
                                refine M_get hx hb hts hiX7 hown hK hρ hH 35 (by decide) hf86 (v := .ref (ad 35)) rfl dX7_walks_287 ?_
                                refine lv_iload hx hb dX7_walks_290 (lv_at hl 7 rfl) ?_
                                refine M_iald hx hb hK hρ hH 35 6 (by decide) k3 rfl (by omega) dX7_walks_292 ?_
                                refine lv_topi (fun w292 ew292 => ?_)
                                rw [show F4 35 k3 = nI (ob n pn k3) by rw [hf4 35 (by decide), e99]; exact ordA_at _ (by omega)] at ew292
                                subst ew292
                                refine M_iast hx hb hK hρ hH 36 6 (by decide) k3 rfl (by omega) dX7_walks_293 (fun H locs hH => ?_)
                                obtain ⟨F293, eF293⟩ : ∃ z, z = setA F4 36 k3 (nI (ob n pn k3)) := ⟨_, rfl⟩
                                rw [← eF293] at hH
                                refine lv_iinc (v := nI (k3 + 1)) (lv' := [(11, .int (nI (k3 + 1))), (0, .ref (ad 0)), (1, .int low), (2, .int high), (3, .int (nI w0)), (4, .int (nI n)), (5, .int (nI al)), (6, .int (nI pn))]) hx hb dX7_walks_294 hl (k := 7) rfl (by exact nI_add _ 1) (by decide) rfl (fun ls hl => ?_)
                                refine lv_goto (tgt := 273) hx hb dX7_walks_297 (by decide) ?_
                                exact ih273 (k3 + 1) F293 (by omega) (by omega) (by intro q a; rw [eF293, setA_n _ _ _ a]; exact hf4 q a) (by intro j hj; rw [eF293, setA_e]; by_cases q : j = k3; (rw [if_pos ⟨rfl, q⟩, q]); (rw [if_neg (by omega)]; exact hb4 j (by omega))) _ _ hH ls (lv_sub hl [1, 2, 3, 4, 5, 6, 7, 0] rfl)
                          · refine lv_iload hx hb dX7_walks_246 (lv_at hl 7 rfl) ?_
                            refine lv_aload_n hx hb dX7_walks_248 rfl (lv_at hl 0 rfl) ?_
                            refine M_get hx hb hts hiX7 hown hK hρ hH 38 (by decide) hf200 (v := .int (I1 38)) rfl dX7_walks_249 ?_
                            refine lv_icmp_lt (tgt := 258) hx hb dX7_walks_252 (by decide) (fun c252 => ?_) (fun c252 => ?_)
                            · have hbx : bidx F now op (sW low high) px py (w0 / 100) (w0 % 100) (pn + 1) = pn := by
                                by_cases hz : pn = 0
                                · simp only [bidx]; rw [if_pos hz, hz]
                                · obtain ⟨y1, y2, -⟩ := hp1 hz
                                  simp only [bidx]; rw [if_neg hz, if_pos]; unfold wbet; rw [← y1, ← hsm2, ← hst2]
                                  first | (rw [if_pos c225]; done) | (rw [if_neg c225, if_neg c234]; first | (rw [if_neg c243]; done) | (rw [if_pos c243]; rw [y2] at c252; exact decide_eq_true ((nI_ltI (by omega) (by have z9 := hwb9 hz; omega)).mp c252)))
                              refine lv_aload_n hx hb dX7_walks_258 rfl (lv_at hl 0 rfl) ?_
                              refine lv_iload hx hb dX7_walks_259 (lv_at hl 8 rfl) ?_
                              refine M_put hx hb hts hiX7 hown hK hρ hH 37 (by decide) hf189 rfl (by decide +kernel) rfl dX7_walks_261 (fun H locs hH => ?_)
                              obtain ⟨I261, eI261⟩ : ∃ z, z = va_up I1 37 sm := ⟨_, rfl⟩
                              rw [← eI261] at hH
                              refine lv_aload_n hx hb dX7_walks_264 rfl (lv_at hl 0 rfl) ?_
                              refine lv_iload hx hb dX7_walks_265 (lv_at hl 7 rfl) ?_
                              refine M_put hx hb hts hiX7 hown hK hρ hH 38 (by decide) hf200 rfl (by decide +kernel) rfl dX7_walks_267 (fun H locs hH => ?_)
                              obtain ⟨I267, eI267⟩ : ∃ z, z = va_up I261 38 (nI stp) := ⟨_, rfl⟩
                              rw [← eI267] at hH
                              refine lv_iconst (v := 0) hx hb dX7_walks_270 (by decide) ?_
                              refine lv_istore (lv' := [(11, .int 0), (0, .ref (ad 0)), (1, .int low), (2, .int high), (3, .int (nI w0)), (4, .int (nI n)), (5, .int (nI al)), (6, .int (nI pn)), (7, .int (nI stp)), (8, .int sm), (9, .int (nI xx)), (10, .int (nI yy))]) hx hb dX7_walks_271 hl (by decide) rfl (fun ls hl => ?_)
                              suffices loop273 : ∀ (k273 : Nat) (k3 : Nat) (F4 : Nat → Nat → Int32), (n < k3 + k273) → (k3 ≤ n) → (∀ q, q ≠ 36 → F4 q = F99 q) → (∀ j, j < k3 → F4 36 j = nI (ob n pn j)) → ∀ (H : Heap) (locs : List Loc), xH G A s.heap H locs (mw G ρ ad b I267 F4) → ∀ (ls : Array Slot), lv_has ls 13 [(0, .ref (ad 0)), (1, .int low), (2, .int high), (3, .int (nI w0)), (4, .int (nI n)), (5, .int (nI al)), (6, .int (nI pn)), (11, .int (nI k3))] → W p l e (headSpec wsX7_walks _).room s m _ below meth c H locs 6 72 (MQ below _ _ s 6 72 A) (F0 m 273 ls []) from
                                loop273 (n + 1) 0 F99 (by omega) (by omega) (fun _ _ => rfl) (fun j hj => absurd hj (by omega)) _ _ hH ls (lv_sub hl [1, 2, 3, 4, 5, 6, 7, 0] rfl)
                              intro k273
                              induction k273 with
                              | zero =>
                                intro k3 F4 hfuel hk3 hf4 hb4 H locs hH ls hl
                                exact absurd hfuel (by omega)
                              | succ k273 ih273 =>
                                intro k3 F4 hfuel hk3 hf4 hb4 H locs hH ls hl
                                refine lv_iload hx hb dX7_walks_273 (lv_at hl 7 rfl) ?_
                                refine lv_iload hx hb dX7_walks_275 (lv_at hl 4 rfl) ?_
                                refine lv_icmp_ge (tgt := 300) hx hb dX7_walks_277 (by decide) (fun c277 => ?_) (fun c277 => ?_)
                                · have c277 : n ≤ k3 := (nI_leI (a := n) (b := k3) (by omega) (by omega)).mp c277
                                  refine lv_iinc (v := nI (pn + 1)) (lv' := [(6, .int (nI (pn + 1))), (0, .ref (ad 0)), (1, .int low), (2, .int high), (3, .int (nI w0)), (4, .int (nI n)), (5, .int (nI al)), (11, .int (nI k3))]) hx hb dX7_walks_300 hl (k := 6) rfl (by exact nI_add _ 1) (by decide) rfl (fun ls hl => ?_)
                                  refine lv_goto (tgt := 87) hx hb dX7_walks_303 (by decide) ?_
                                  exact ih87 (pn + 1) I267 F4 (by omega) (by omega) (by intro q a b; rw [hf4 q b, e99, ordA_n35 _ _ _ _ a]; exact hf2 q a b) (by intro q a b; rw [eI267, up_n _ _ b, eI261, up_n _ _ a]; exact hfi q a b) (by omega) (by intro _; rw [hbx]; exact ⟨by rw [eI267, up_n _ _ (by decide), eI261, up_k, hsm2], by rw [eI267, up_k, hst2], by omega, fun j hj => by rw [hb4 j (by omega)]⟩) _ _ hH ls (lv_sub hl [1, 2, 3, 4, 5, 6, 0] rfl)
                                · have c277 : ¬ n ≤ k3 := fun zz => c277 ((nI_leI (a := n) (b := k3) (by omega) (by omega)).mpr zz)
                                  refine lv_aload_n hx hb dX7_walks_280 rfl (lv_at hl 0 rfl) ?_
                                  refine M_get hx hb hts hiX7 hown hK hρ hH 36 (by decide) hf89 (v := .ref (ad 36)) rfl dX7_walks_281 ?_
                                  refine lv_iload hx hb dX7_walks_284 (lv_at hl 7 rfl) ?_
                                  refine lv_aload_n hx hb dX7_walks_286 rfl (lv_at hl 0 rfl) ?_
                                  refine M_get hx hb hts hiX7 hown hK hρ hH 35 (by decide) hf86 (v := .ref (ad 35)) rfl dX7_walks_287 ?_
                                  refine lv_iload hx hb dX7_walks_290 (lv_at hl 7 rfl) ?_
                                  refine M_iald hx hb hK hρ hH 35 6 (by decide) k3 rfl (by omega) dX7_walks_292 ?_
                                  refine lv_topi (fun w292 ew292 => ?_)
                                  rw [show F4 35 k3 = nI (ob n pn k3) by rw [hf4 35 (by decide), e99]; exact ordA_at _ (by omega)] at ew292
                                  subst ew292
                                  refine M_iast hx hb hK hρ hH 36 6 (by decide) k3 rfl (by omega) dX7_walks_293 (fun H locs hH => ?_)
                                  obtain ⟨F293, eF293⟩ : ∃ z, z = setA F4 36 k3 (nI (ob n pn k3)) := ⟨_, rfl⟩
                                  rw [← eF293] at hH
                                  refine lv_iinc (v := nI (k3 + 1)) (lv' := [(11, .int (nI (k3 + 1))), (0, .ref (ad 0)), (1, .int low), (2, .int high), (3, .int (nI w0)), (4, .int (nI n)), (5, .int (nI al)), (6, .int (nI pn))]) hx hb dX7_walks_294 hl (k := 7) rfl (by exact nI_add _ 1) (by decide) rfl (fun ls hl => ?_)
                                  refine lv_goto (tgt := 273) hx hb dX7_walks_297 (by decide) ?_
                                  exact ih273 (k3 + 1) F293 (by omega) (by omega) (by intro q a; rw [eF293, setA_n _ _ _ a]; exact hf4 q a) (by intro j hj; rw [eF293, setA_e]; by_cases q : j = k3; (rw [if_pos ⟨rfl, q⟩, q]); (rw [if_neg (by omega)]; exact hb4 j (by omega))) _ _ hH ls (lv_sub hl [1, 2, 3, 4, 5, 6, 7, 0] rfl)
                            · have hpz : ¬ pn = 0 := fun z => c225 (hp0 z)
                              have hbx : bidx F now op (sW low high) px py (w0 / 100) (w0 % 100) (pn + 1) = bidx F now op (sW low high) px py (w0 / 100) (w0 % 100) pn := by
                                obtain ⟨y1, y2, -⟩ := hp1 hpz
                                simp only [bidx]; rw [if_neg hpz, if_neg]; unfold wbet; rw [← y1, ← hsm2, ← hst2, if_neg c225]
                                first | (rw [if_pos c234]; decide) | (rw [if_neg c234, if_pos c243]; rw [y2] at c252; have z9 := hwb9 hpz; simp; exact Nat.le_of_not_lt (fun z => c252 ((nI_ltI (by omega) (by omega)).mpr z)))
                              refine lv_goto (tgt := 300) hx hb dX7_walks_255 (by decide) ?_
                              refine lv_iinc (v := nI (pn + 1)) (lv' := [(6, .int (nI (pn + 1))), (0, .ref (ad 0)), (1, .int low), (2, .int high), (3, .int (nI w0)), (4, .int (nI n)), (5, .int (nI al)), (7, .int (nI stp)), (8, .int sm), (9, .int (nI xx)), (10, .int (nI yy)), (11, .int (nI k2))]) hx hb dX7_walks_300 hl (k := 6) rfl (by exact nI_add _ 1) (by decide) rfl (fun ls hl => ?_)
                              refine lv_goto (tgt := 87) hx hb dX7_walks_303 (by decide) ?_
                              exact ih87 (pn + 1) I1 F99 (by omega) (by omega) (by intro q a b; rw [e99, ordA_n35 _ _ _ _ a]; exact hf2 q a b) (hfi) (by omega) (by intro _; obtain ⟨y1, y2, y3, y4⟩ := hp1 hpz; rw [hbx]; exact ⟨y1, y2, by omega, fun j hj => by rw [e99, ordA_n35 _ _ _ _ (by decide)]; exact y4 j hj⟩) _ _ hH ls (lv_sub hl [1, 2, 3, 4, 5, 6, 0] rfl)
                    · have c127 : ¬ n ≤ k2 := fun zz => c127 ((nI_leI (a := n) (b := k2) (by omega) (by omega)).mpr zz)
                      have hok := hob k2 (by omega)
                      have htT := hSn _ (getD_mem (S := sW low high) (k := ob n pn k2) (by rw [← hnS]; exact hok))
                      obtain ⟨hx1, hx2, hx3, hx4⟩ := hpx _ htT
                      have hwd := wdist_le hb2 hb3 hx2 hx4
                      refine lv_aload_n hx hb dX7_walks_130 rfl (lv_at hl 0 rfl) ?_
                      refine M_get hx hb hts hiX7 hown hK hρ hH 33 (by decide) hf80 (v := .ref (ad 33)) rfl dX7_walks_131 ?_
                      refine lv_aload_n hx hb dX7_walks_134 rfl (lv_at hl 0 rfl) ?_
                      refine M_get hx hb hts hiX7 hown hK hρ hH 35 (by decide) hf86 (v := .ref (ad 35)) rfl dX7_walks_135 ?_
                      refine lv_iload hx hb dX7_walks_138 (lv_at hl 11 rfl) ?_
                      refine M_iald hx hb hK hρ hH 35 6 (by decide) k2 rfl (by omega) dX7_walks_140 ?_
                      refine lv_topi (fun w140 ew140 => ?_)
                      rw [show F99 35 k2 = nI (ob n pn k2) by rw [e99]; exact ordA_at _ (by omega)] at ew140
                      subst ew140
                      refine M_iald hx hb hK hρ hH 33 6 (by decide) (ob n pn k2) rfl (by omega) dX7_walks_141 ?_
                      refine lv_topi (fun w141 ew141 => ?_)
                      rw [show F99 33 (ob n pn k2) = nI ((sW low high).getD (ob n pn k2) 0) by rw [e99, ordA_n35 _ _ _ _ (by decide), hf2 33 (by decide) (by decide)]; exact hch1 _ hok] at ew141
                      subst ew141
                      refine lv_istore (lv' := [(12, .int (nI ((sW low high).getD (ob n pn k2) 0))), (0, .ref (ad 0)), (1, .int low), (2, .int high), (3, .int (nI w0)), (4, .int (nI n)), (5, .int (nI al)), (6, .int (nI pn)), (7, .int (nI stp)), (8, .int sm), (9, .int (nI xx)), (10, .int (nI yy)), (11, .int (nI k2))]) hx hb dX7_walks_142 hl (by decide) rfl (fun ls hl => ?_)
                      refine lv_iload hx hb dX7_walks_144 (lv_at hl 8 rfl) ?_
                      refine lv_iload hx hb dX7_walks_146 (lv_at hl 10 rfl) ?_
                      refine lv_iload hx hb dX7_walks_148 (lv_at hl 11 rfl) ?_
                      refine lv_aload_n hx hb dX7_walks_150 rfl (lv_at hl 1 rfl) ?_
                      refine M_get hx hb hts hiX7 hown hK hρ hH 5 (by decide) hf19 (v := .ref (ad 5)) rfl dX7_walks_151 ?_
                      refine lv_iload hx hb dX7_walks_154 (lv_at hl 0 rfl) ?_
                      refine M_iald hx hb hK hρ hH 5 60 (by decide) ((sW low high).getD (ob n pn k2) 0) rfl (by omega) dX7_walks_156 ?_
                      refine lv_topi (fun w156 ew156 => ?_)
                      rw [show F99 5 ((sW low high).getD (ob n pn k2) 0) = nI (px ((sW low high).getD (ob n pn k2) 0)) by rw [hq9 5 (by decide) (by decide) (by decide) (by decide)]; exact hx1] at ew156
                      subst ew156
                      refine lv_aload_n hx hb dX7_walks_157 rfl (lv_at hl 1 rfl) ?_
                      refine M_get hx hb hts hiX7 hown hK hρ hH 6 (by decide) hf22 (v := .ref (ad 6)) rfl dX7_walks_158 ?_
                      refine lv_iload hx hb dX7_walks_161 (lv_at hl 0 rfl) ?_
                      refine M_iald hx hb hK hρ hH 6 60 (by decide) ((sW low high).getD (ob n pn k2) 0) rfl (by omega) dX7_walks_163 ?_
                      refine lv_topi (fun w163 ew163 => ?_)
                      rw [show F99 6 ((sW low high).getD (ob n pn k2) 0) = nI (py ((sW low high).getD (ob n pn k2) 0)) by rw [hq9 6 (by decide) (by decide) (by decide) (by decide)]; exact hx3] at ew163
                      subst ew163
                      refine x_calli (va_runS (As := [.int (nI xx), .int (nI yy), .int (nI (px ((sW low high).getD (ob n pn k2) 0))), .int (nI (py ((sW low high).getD (ob n pn k2) 0)))]) (rest := [.int (nI stp)]) ⟨hx, hb, hml, hown, hts⟩ (c_X7_apart l G A (mw G ρ ad b I1 F99) (nI xx) (nI yy) (nI (px ((sW low high).getD (ob n pn k2) 0))) (nI (py ((sW low high).getD (ob n pn k2) 0)))) (va_cwS 4 hts gX7_walks_X7_apart rfl rfl rfl (by decide +kernel) ⟨Nat.le_of_ble_eq_true rfl, Nat.le_of_ble_eq_true rfl⟩) (x_preS hK hH hTt [.int (nI xx), .int (nI yy), .int (nI (px ((sW low high).getD (ob n pn k2) 0))), .int (nI (py ((sW low high).getD (ob n pn k2) 0)))]) rfl rfl hl.1 rfl (lv_room (Nat.le_of_ble_eq_true rfl)) dX7_walks_164 ⟨Nat.le_of_ble_eq_true rfl, Nat.le_of_ble_eq_true rfl⟩) hH (fun r164 u H locs hp hH => ?_)
                      subst hp
                      have hH : xH G A s.heap H locs (mw G ρ ad b I1 F99) := hH
                      refine lv_topi (fun w164 ew164 => ?_)
                      rw [show apI (nI xx) (nI yy) (nI (px ((sW low high).getD (ob n pn k2) 0))) (nI (py ((sW low high).getD (ob n pn k2) 0))) = nI (wdist xx yy (px ((sW low high).getD (ob n pn k2) 0)) (py ((sW low high).getD (ob n pn k2) 0))) from apI_nat hb2 hb3 hx2 hx4] at ew164
                      subst ew164
                      refine N_iadd hx hb stp (wdist xx yy (px ((sW low high).getD (ob n pn k2) 0)) (py ((sW low high).getD (ob n pn k2) 0))) rfl rfl dX7_walks_167 ?_
                      refine lv_istore (lv' := [(7, .int (nI (stp + (wdist xx yy (px ((sW low high).getD (ob n pn k2) 0)) (py ((sW low high).getD (ob n pn k2) 0)))))), (12, .int (nI ((sW low high).getD (ob n pn k2) 0))), (0, .ref (ad 0)), (1, .int low), (2, .int high), (3, .int (nI w0)), (4, .int (nI n)), (5, .int (nI al)), (6, .int (nI pn)), (8, .int sm), (9, .int (nI xx)), (10, .int (nI yy)), (11, .int (nI k2))]) hx hb dX7_walks_168 hl (by decide) rfl (fun ls hl => ?_)
                      refine lv_aload_n hx hb dX7_walks_170 rfl (lv_at hl 2 rfl) ?_
                      refine M_get hx hb hts hiX7 hown hK hρ hH 5 (by decide) hf19 (v := .ref (ad 5)) rfl dX7_walks_171 ?_
                      refine lv_iload hx hb dX7_walks_174 (lv_at hl 1 rfl) ?_
                      refine M_iald hx hb hK hρ hH 5 60 (by decide) ((sW low high).getD (ob n pn k2) 0) rfl (by omega) dX7_walks_176 ?_
                      refine lv_topi (fun w176 ew176 => ?_)
                      rw [show F99 5 ((sW low high).getD (ob n pn k2) 0) = nI (px ((sW low high).getD (ob n pn k2) 0)) by rw [hq9 5 (by decide) (by decide) (by decide) (by decide)]; exact hx1] at ew176
                      subst ew176
                      refine lv_istore (lv' := [(9, .int (nI (px ((sW low high).getD (ob n pn k2) 0)))), (7, .int (nI (stp + (wdist xx yy (px ((sW low high).getD (ob n pn k2) 0)) (py ((sW low high).getD (ob n pn k2) 0)))))), (12, .int (nI ((sW low high).getD (ob n pn k2) 0))), (0, .ref (ad 0)), (1, .int low), (2, .int high), (3, .int (nI w0)), (4, .int (nI n)), (5, .int (nI al)), (6, .int (nI pn)), (8, .int sm), (10, .int (nI yy)), (11, .int (nI k2))]) hx hb dX7_walks_177 hl (by decide) rfl (fun ls hl => ?_)
                      refine lv_aload_n hx hb dX7_walks_179 rfl (lv_at hl 3 rfl) ?_
                      refine M_get hx hb hts hiX7 hown hK hρ hH 6 (by decide) hf22 (v := .ref (ad 6)) rfl dX7_walks_180 ?_
                      refine lv_iload hx hb dX7_walks_183 (lv_at hl 2 rfl) ?_
                      refine M_iald hx hb hK hρ hH 6 60 (by decide) ((sW low high).getD (ob n pn k2) 0) rfl (by omega) dX7_walks_185 ?_
                      refine lv_topi (fun w185 ew185 => ?_)
                      rw [show F99 6 ((sW low high).getD (ob n pn k2) 0) = nI (py ((sW low high).getD (ob n pn k2) 0)) by rw [hq9 6 (by decide) (by decide) (by decide) (by decide)]; exact hx3] at ew185
                      subst ew185
                      refine lv_istore (lv' := [(10, .int (nI (py ((sW low high).getD (ob n pn k2) 0)))), (9, .int (nI (px ((sW low high).getD (ob n pn k2) 0)))), (7, .int (nI (stp + (wdist xx yy (px ((sW low high).getD (ob n pn k2) 0)) (py ((sW low high).getD (ob n pn k2) 0)))))), (12, .int (nI ((sW low high).getD (ob n pn k2) 0))), (0, .ref (ad 0)), (1, .int low), (2, .int high), (3, .int (nI w0)), (4, .int (nI n)), (5, .int (nI al)), (6, .int (nI pn)), (8, .int sm), (11, .int (nI k2))]) hx hb dX7_walks_186 hl (by decide) rfl (fun ls hl => ?_)
                      refine lv_iload hx hb dX7_walks_188 (lv_at hl 11 rfl) ?_
                      refine lv_aload_n hx hb dX7_walks_190 rfl (lv_at hl 4 rfl) ?_
                      refine M_get hx hb hts hiX7 hown hK hρ hH 34 (by decide) hf83 (v := .ref (ad 34)) rfl dX7_walks_191 ?_
                      refine lv_bipush (v := 24) hx hb dX7_walks_194 (by decide) ?_
                      refine lv_aload_n hx hb dX7_walks_196 rfl (lv_at hl 4 rfl) ?_
                      refine M_get hx hb hts hiX7 hown hK hρ hH 35 (by decide) hf86 (v := .ref (ad 35)) rfl dX7_walks_197 ?_
                      refine lv_iload hx hb dX7_walks_200 (lv_at hl 12 rfl) ?_
                      refine M_iald hx hb hK hρ hH 35 6 (by decide) k2 rfl (by omega) dX7_walks_202 ?_
                      refine lv_topi (fun w202 ew202 => ?_)
                      rw [show F99 35 k2 = nI (ob n pn k2) by rw [e99]; exact ordA_at _ (by omega)] at ew202
                      subst ew202
                      refine N_imul hx hb 24 (ob n pn k2) rfl rfl dX7_walks_203 ?_
                      refine lv_iload hx hb dX7_walks_204 (lv_at hl 2 rfl) ?_
                      refine lv_bipush (v := 60) hx hb dX7_walks_206 (by decide) ?_
                      refine N_idiv hx hb (stp + (wdist xx yy (px ((sW low high).getD (ob n pn k2) 0)) (py ((sW low high).getD (ob n pn k2) 0)))) 60 rfl rfl (by omega) (by decide) (by decide) dX7_walks_208 ?_
                      refine N_iadd hx hb (24 * (ob n pn k2)) ((stp + (wdist xx yy (px ((sW low high).getD (ob n pn k2) 0)) (py ((sW low high).getD (ob n pn k2) 0)))) / 60) rfl rfl dX7_walks_209 ?_
                      refine M_iald hx hb hK hρ hH 34 144 (by decide) ((24 * (ob n pn k2)) + ((stp + (wdist xx yy (px ((sW low high).getD (ob n pn k2) 0)) (py ((sW low high).getD (ob n pn k2) 0)))) / 60)) rfl (by omega) dX7_walks_210 ?_
                      have hro9 : F99 34 (24 * ob n pn k2 + (stp + wdist xx yy (px ((sW low high).getD (ob n pn k2) 0)) (py ((sW low high).getD (ob n pn k2) 0))) / 60) = ovS F ((sW low high).getD (ob n pn k2) 0) now (op ((sW low high).getD (ob n pn k2) 0)) ((stp + wdist xx yy (px ((sW low high).getD (ob n pn k2) 0)) (py ((sW low high).getD (ob n pn k2) 0))) / 60) := by rw [e99, ordA_n35 _ _ _ _ (by decide), hf2 34 (by decide) (by decide)]; exact hro _ (by omega) _ (by omega)
                      refine lv_iadd hx hb dX7_walks_211 ?_
                      refine lv_topi (fun v212 ev212 => ?_)
                      refine lv_istore (lv' := [(8, .int v212), (10, .int (nI (py ((sW low high).getD (ob n pn k2) 0)))), (9, .int (nI (px ((sW low high).getD (ob n pn k2) 0)))), (7, .int (nI (stp + (wdist xx yy (px ((sW low high).getD (ob n pn k2) 0)) (py ((sW low high).getD (ob n pn k2) 0)))))), (12, .int (nI ((sW low high).getD (ob n pn k2) 0))), (0, .ref (ad 0)), (1, .int low), (2, .int high), (3, .int (nI w0)), (4, .int (nI n)), (5, .int (nI al)), (6, .int (nI pn)), (11, .int (nI k2))]) hx hb dX7_walks_212 hl (by decide) rfl (fun ls hl => ?_)
                      refine lv_iinc (v := nI (k2 + 1)) (lv' := [(11, .int (nI (k2 + 1))), (8, .int v212), (10, .int (nI (py ((sW low high).getD (ob n pn k2) 0)))), (9, .int (nI (px ((sW low high).getD (ob n pn k2) 0)))), (7, .int (nI (stp + (wdist xx yy (px ((sW low high).getD (ob n pn k2) 0)) (py ((sW low high).getD (ob n pn k2) 0)))))), (12, .int (nI ((sW low high).getD (ob n pn k2) 0))), (0, .ref (ad 0)), (1, .int low), (2, .int high), (3, .int (nI w0)), (4, .int (nI n)), (5, .int (nI al)), (6, .int (nI pn))]) hx hb dX7_walks_214 hl (k := 12) rfl (by exact nI_add _ 1) (by decide) rfl (fun ls hl => ?_)
                      refine lv_goto (tgt := 123) hx hb dX7_walks_217 (by decide) ?_
                      exact ih123 (k2 + 1) (stp + (wdist xx yy (px ((sW low high).getD (ob n pn k2) 0)) (py ((sW low high).getD (ob n pn k2) 0)))) v212 (px ((sW low high).getD (ob n pn k2) 0)) (py ((sW low high).getD (ob n pn k2) 0)) (by omega) (by omega) (by simp only [wst]; rw [← hst]) (by rw [ev212, hsm]; simp only [wov]; congr 1; rw [hro9]; congr 1; simp only [wst]; rw [← hst]) _ _ hH ls (lv_sub hl [6, 7, 8, 9, 10, 11, 12, 4, 1, 3, 2, 0] rfl)
            · have c63 : ¬ n < i := fun zz => c63 ((nI_ltI (a := n) (b := i) (by omega) (by omega)).mpr zz)
              refine lv_iload hx hb dX7_walks_66 (lv_at hl 5 rfl) ?_
              refine lv_iload hx hb dX7_walks_68 (lv_at hl 6 rfl) ?_
              refine N_imul hx hb al i rfl rfl dX7_walks_70 ?_
              refine lv_istore (lv' := [(5, .int (nI (al * i))), (0, .ref (ad 0)), (1, .int low), (2, .int high), (3, .int (nI w0)), (4, .int (nI n)), (6, .int (nI i))]) hx hb dX7_walks_71 hl (by decide) rfl (fun ls hl => ?_)
              refine lv_iinc (v := nI (i + 1)) (lv' := [(6, .int (nI (i + 1))), (5, .int (nI (al * i))), (0, .ref (ad 0)), (1, .int low), (2, .int high), (3, .int (nI w0)), (4, .int (nI n))]) hx hb dX7_walks_73 hl (k := 6) rfl (by exact nI_add _ 1) (by decide) rfl (fun ls hl => ?_)
              refine lv_goto (tgt := 59) hx hb dX7_walks_76 (by decide) ?_
              exact ih59 (i + 1) (al * i) (by omega) (by omega) (by omega) (by rw [hal]; obtain ⟨z, rfl⟩ : ∃ z, i = z + 2 := ⟨i - 2, by omega⟩; rfl) _ _ hH ls (lv_sub hl [2, 3, 4, 5, 6, 1, 0] rfl)
        · have c38 : ¬ n ≤ k := fun zz => c38 ((nI_leI (a := n) (b := k) (by omega) (by omega)).mpr zz)
          refine lv_aload_n hx hb dX7_walks_41 rfl (lv_at hl 0 rfl) ?_
          refine lv_iload hx hb dX7_walks_42 (lv_at hl 5 rfl) ?_
          refine x_callv (va_runV (As := [.int (nI k)]) (rest := []) ⟨hx, hb, hml, hown, hts⟩ (c_X7_foresees l G A ρ ad b I F1 hρ nT hn hT now hw hN op (fun t ht => by rw [hf1 9 (by decide) (by decide)]; exact hop t ht) (fun t ht i hi => by rw [hf1 13 (by decide) (by decide)]; exact hoy t ht i hi) k ((sW low high).getD k 0) (by omega) (hch1 k (by omega)) (hSn _ (getD_mem (by omega)))) (cwV 1 hts gX7_walks_X7_foresees rfl rfl rfl (by decide +kernel) ⟨Nat.le_of_ble_eq_true rfl, Nat.le_of_ble_eq_true rfl⟩) (x_preV hK hH hTt (mw_ob hρ) rfl [.int (nI k)]) rfl rfl hl.1 rfl (lv_room (Nat.le_of_ble_eq_true rfl)) dX7_walks_44 ⟨by show k + 1 ≤ 6; omega, by show 12 * k + 12 ≤ 72; omega⟩) hH (fun u H locs hp hH => ?_)
          obtain ⟨I44, F44⟩ := u
          have e44 := hp
          have hH : xH G A s.heap H locs (mw G ρ ad b I44 F44) := hH
          have hI44 : I44 = I := congrArg Prod.fst e44
          rw [hI44] at hH
          refine lv_iinc (v := nI (k + 1)) (lv' := [(5, .int (nI (k + 1))), (0, .ref (ad 0)), (1, .int low), (2, .int high), (3, .int (nI w0)), (4, .int (nI n))]) hx hb dX7_walks_47 hl (k := 5) rfl (by exact nI_add _ 1) (by decide) rfl (fun ls hl => ?_)
          refine lv_goto (tgt := 34) hx hb dX7_walks_50 (by decide) ?_
          refine W.widen (k := k + 1) (n := 12 * (k + 1)) (Nat.le_refl _) (by omega) ?_
          have e44 : F44 = roF F1 k 24 (ovS F1 ((sW low high).getD k 0) now (op ((sW low high).getD k 0))) := congrArg Prod.snd e44
          exact ih34 (k + 1) F44 (by omega) (by omega) (by intro q a b; rw [e44, roF_n _ _ _ _ b]; exact hf1 q a b) (by intro j hj; rw [e44, roF_n _ _ _ _ (by decide)]; exact hch1 j hj) (by intro j hj d hd; rw [e44]; unfold roF; by_cases q : j = k; (rw [q, if_pos (by omega), show 24 * k + d - 24 * k = d by omega]; exact ovS_eq hf1 _ _ _ _); (rw [if_neg (by omega)]; exact hro j (by omega) d hd)) _ _ hH ls (lv_sub hl [1, 2, 3, 4, 5, 0] rfl)
    · refine lv_iconst (v := (-1)) hx hb dX7_walks_29 (by decide) ?_
      refine W.widen (k := 6) (n := 72) (Nat.le_of_ble_eq_true rfl) (Nat.le_of_ble_eq_true rfl) ?_
      exact x_iret (v := (-1)) (I, F14) hx hb hr hlocks hK hH (⟨by unfold wR; rw [if_neg c8, ← hr14, c26], fun q a _ _ _ => hfr14 q a, fun _ _ _ => rfl, fun z => absurd rfl z⟩) dX7_walks_30
