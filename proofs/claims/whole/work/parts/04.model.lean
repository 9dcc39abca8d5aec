/-! THE MODEL'S CELLS: k = 0 its object, else the array of field k; I its ints by field, F its arrays by field; b: the rest of the world -/
def mlen (k : Nat) : Nat := match k with
  | 1 => 3650 | 2 => 3650 | 11 => 180 | 12 => 180 | 13 => 180 | 14 => 720 | 15 => 180 | 17 => 200 | 18 => 800 | 19 => 12000 | 20 => 200 | 21 => 200
  | 22 => 6 | 23 => 6 | 24 => 6 | 25 => 6 | 33 => 6 | 34 => 144 | 35 => 6 | 36 => 6 | _ => 60
def mz (k : Nat) : Nat := match k with
  | 8 => 1 | 20 => 1 | 21 => 1 | 22 => 1 | _ => 0
def mlive (k : Nat) : Bool := match k with
  | 3 => false | 16 => false | 26 => false | 27 => false | 28 => false | 29 => false | 30 => false | 31 => false | 32 => false | _ => decide (k < 37)
def mobj (ad : Nat → Nat) (I : Nat → Int32) : List Value := [.int (I 0), .ref (ad 1), .ref (ad 2), .int (I 3), .ref (ad 4), .ref (ad 5), .ref (ad 6), .ref (ad 7), .ref (ad 8), .ref (ad 9), .ref (ad 10), .ref (ad 11), .ref (ad 12), .ref (ad 13), .ref (ad 14), .ref (ad 15), .int (I 16), .ref (ad 17), .ref (ad 18), .ref (ad 19), .ref (ad 20), .ref (ad 21), .ref (ad 22), .ref (ad 23), .ref (ad 24), .ref (ad 25), .int (I 26), .int (I 27), .int (I 28), .int (I 29), .int (I 30), .int (I 31), .int (I 32), .ref (ad 33), .ref (ad 34), .ref (ad 35), .ref (ad 36), .int (I 37), .int (I 38)]
def mst (G : XG) (ad : Nat → Nat) (I : Nat → Int32) (F : Nat → Nat → Int32) (k : Nat) : va_E := if k = 0 then .inr (8, mobj ad I) else .inl (G.2 (mz k), mlen k, .inl (F k))
def mw (G : XG) (ρ : Nat → Option Nat) (ad : Nat → Nat) (b : XW) (I : Nat → Int32) (F : Nat → Nat → Int32) : XW := fun a => match ρ a with
  | some k => some (mst G ad I F k)
  | none => b a
def mA (ρ : Nat → Option Nat) (ad : Nat → Nat) : Prop := (∀ k, mlive k = true → ρ (ad k) = some k) ∧ ∀ a k, ρ a = some k → a = ad k
theorem mw_at {G : XG} {ρ : Nat → Option Nat} {ad : Nat → Nat} {b : XW} {I : Nat → Int32} {F : Nat → Nat → Int32} (hρ : mA ρ ad) {k : Nat} (hk : mlive k = true) : mw G ρ ad b I F (ad k) = some (mst G ad I F k) := by
  simp only [mw, hρ.1 k hk]
theorem mw_ob {G : XG} {ρ : Nat → Option Nat} {ad : Nat → Nat} {b : XW} {I : Nat → Int32} {F : Nat → Nat → Int32} (hρ : mA ρ ad) : mw G ρ ad b I F (ad 0) = some (.inr (8, mobj ad I)) := mw_at hρ rfl
theorem mw_ar {G : XG} {ρ : Nat → Option Nat} {ad : Nat → Nat} {b : XW} {I : Nat → Int32} {F : Nat → Nat → Int32} (hρ : mA ρ ad) {k n z : Nat} (hk : mlive k = true) (h0 : k ≠ 0) (hn : mlen k = n) (hz : mz k = z) : mw G ρ ad b I F (ad k) = some (.inl (G.2 z, n, .inl (F k))) := by
  rw [mw_at hρ hk, mst, if_neg h0, hn, hz]
theorem mw_upF {G : XG} {ρ : Nat → Option Nat} {ad : Nat → Nat} {b : XW} {I : Nat → Int32} {F : Nat → Nat → Int32} (hρ : mA ρ ad) {k n z : Nat} {g : Nat → Int32} (hk : mlive k = true) (h0 : k ≠ 0) (hn : mlen k = n) (hz : mz k = z) : va_up (mw G ρ ad b I F) (ad k) (some (.inl (G.2 z, n, .inl g))) = mw G ρ ad b I (va_up F k g) := by
  funext a
  by_cases ha : a = ad k
  · subst ha
    rw [mw_ar (F := va_up F k g) hρ hk h0 hn hz]
    simp [va_up]
  · rw [show va_up (mw G ρ ad b I F) (ad k) (some (.inl (G.2 z, n, .inl g))) a = mw G ρ ad b I F a from if_neg ha]
    simp only [mw]
    cases hr : ρ a with
    | none => rfl
    | some j =>
      have hj : j ≠ k := fun e => ha (by rw [hρ.2 a j hr, e])
      simp only [mst]
      rw [show va_up F k g j = F j from if_neg hj]
theorem mw_upI {G : XG} {ρ : Nat → Option Nat} {ad : Nat → Nat} {b : XW} {I J : Nat → Int32} {F : Nat → Nat → Int32} (hρ : mA ρ ad) {fs : List Value} (hJ : fs = mobj ad J) : va_up (mw G ρ ad b I F) (ad 0) (some (.inr (8, fs))) = mw G ρ ad b J F := by
  subst hJ
  funext a
  by_cases ha : a = ad 0
  · subst ha
    rw [mw_ob (I := J) hρ]
    simp [va_up]
  · rw [show va_up (mw G ρ ad b I F) (ad 0) (some (.inr (8, mobj ad J))) a = mw G ρ ad b I F a from if_neg ha]
    simp only [mw]
    cases hr : ρ a with
    | none => rfl
    | some j =>
      have hj : j ≠ 0 := fun e => ha (by rw [hρ.2 a j hr, e])
      simp only [mst, if_neg hj]
/-- one place of one array -/
def setA (F : Nat → Nat → Int32) (k j : Nat) (x : Int32) : Nat → Nat → Int32 := va_up F k (upd (F k) j x)
theorem setA_k (F : Nat → Nat → Int32) (k j : Nat) (x : Int32) : setA F k j x k = upd (F k) j x := if_pos rfl
theorem setA_n (F : Nat → Nat → Int32) {k q : Nat} (j : Nat) (x : Int32) (h : q ≠ k) : setA F k j x q = F q := if_neg h
theorem setA_e (F : Nat → Nat → Int32) (k j : Nat) (x : Int32) (q i : Nat) : setA F k j x q i = if q = k ∧ i = j then x else F q i := by
  unfold setA va_up upd
  by_cases h : q = k <;> by_cases h2 : i = j <;> simp [h, h2]
theorem vI_in {i : Int32} {j n : Nat} (hi : i = nI j) (hj : j < n) (hn : n < 2 ^ 31) : vp_in i n := by rw [hi]; exact vp_in_nI hj hn
section MR
variable {p : Program} {l : Launch} {e : Env} {R : Room} {s : State} {m : MethodId} {args : Array Value} {below : List Frame} {meth : Method} {c : Code} {H : Heap} {locs : List Loc} {cells slots : Nat} {Q : State → Prop}
variable {cc : ByteArray} {pc : Nat} {ls : Array Slot} {rest : List Value} {G : XG} {A : Nat → Prop} {H0 : Heap} {ρ : Nat → Option Nat} {ad : Nat → Nat} {b : XW} {I : Nat → Int32} {F : Nat → Nat → Int32}
theorem M_get (hexec : p.tables.exec = Jvm.exec) (hb : c.code = cc) {index : Nat} {Ts : List Cond} (hts : ∀ w ∈ Ts, w.before args s = true) (hin : ∀ w ∈ wsX70, w ∈ Ts) (hown : s.vm.findClass RX7 = some m.cls) (hK : xK G s) (hρ : mA ρ ad) (hH : xH G A H0 H locs (mw G ρ ad b I F)) (k : Nat) (hk : k < 39) (hlink : (Cond.fieldLink RX7 index (TX7 k).1 (TX7 k).2.1 (TX7 k).2.2.1).before args s = true) {v : Value} (hv : (mobj ad I)[k]? = some v) (hdg : decode cc pc = .ok (.getfield index, 3))
    (kk : W p l e R s m args below meth c H locs cells slots Q (F0 m (pc + 3) ls (v :: rest))) : W p l e R s m args below meth c H locs cells slots Q (F0 m pc ls (.ref (ad 0) :: rest)) :=
  x_get (C := RX7) (T := TX7) (N := 39) hexec hb hts hin hown hK hH (mw_ob hρ) rfl k hk hlink (fun _ h => h) hv hdg kk
theorem M_put (hexec : p.tables.exec = Jvm.exec) (hb : c.code = cc) {index : Nat} {Ts : List Cond} (hts : ∀ w ∈ Ts, w.before args s = true) (hin : ∀ w ∈ wsX70, w ∈ Ts) (hown : s.vm.findClass RX7 = some m.cls) (hK : xK G s) (hρ : mA ρ ad) (hH : xH G A H0 H locs (mw G ρ ad b I F)) (k : Nat) (hk : k < 39) (hlink : (Cond.fieldLink RX7 index (TX7 k).1 (TX7 k).2.1 (TX7 k).2.2.1).before args s = true) (hfin : (TX7 k).2.2.2 = false) {x : Int32} (hd : parseFieldDescriptor (TX7 k).2.2.1 = some .int) (hJ : (mobj ad I).set k (.int x) = mobj ad (va_up I k x)) (hdg : decode cc pc = .ok (.putfield index, 3))
    (kk : ∀ (H1 : Heap) (locs1 : List Loc), xH G A H0 H1 locs1 (mw G ρ ad b (va_up I k x) F) → W p l e R s m args below meth c H1 locs1 cells slots Q (F0 m (pc + 3) ls rest)) : W p l e R s m args below meth c H locs cells slots Q (F0 m pc ls (.int x :: .ref (ad 0) :: rest)) :=
  x_put (C := RX7) (T := TX7) (N := 39) (ty := .int) hexec hb hts hin tyX7 tyX7_ok nmX7 hown hK hH (mw_ob hρ) rfl k hk hlink (fun _ h => h) hfin hd rfl rfl hk hdg (fun H1 locs1 h => kk H1 locs1 (xH_of h (mw_upI hρ hJ)))
theorem M_iald (hexec : p.tables.exec = Jvm.exec) (hb : c.code = cc) (hK : xK G s) (hρ : mA ρ ad) (hH : xH G A H0 H locs (mw G ρ ad b I F)) (k n : Nat) (hc : mlive k = true ∧ k ≠ 0 ∧ mlen k = n ∧ mz k = 0 ∧ n < 2 ^ 31) {i : Int32} (j : Nat) (hi : i = nI j) (hj : j < n) (hdg : decode cc pc = .ok (.iaload, 1))
    (kk : W p l e R s m args below meth c H locs cells slots Q (F0 m (pc + 1) ls (.int (F k j) :: rest))) : W p l e R s m args below meth c H locs cells slots Q (F0 m pc ls (.int i :: .ref (ad k) :: rest)) := by
  refine x_iald hexec hb hK hH (mw_ar hρ hc.1 hc.2.1 hc.2.2.1 hc.2.2.2.1) (vI_in hi hj hc.2.2.2.2) hdg ?_
  rw [hi, nI_clamp (Nat.lt_trans hj hc.2.2.2.2)]
  exact kk
theorem M_zald (hexec : p.tables.exec = Jvm.exec) (hb : c.code = cc) (hK : xK G s) (hρ : mA ρ ad) (hH : xH G A H0 H locs (mw G ρ ad b I F)) (k n : Nat) (hc : mlive k = true ∧ k ≠ 0 ∧ mlen k = n ∧ mz k = 1 ∧ n < 2 ^ 31) {i : Int32} (j : Nat) (hi : i = nI j) (hj : j < n) (hdg : decode cc pc = .ok (.baload, 1))
    (kk : W p l e R s m args below meth c H locs cells slots Q (F0 m (pc + 1) ls (.int (F k j) :: rest))) : W p l e R s m args below meth c H locs cells slots Q (F0 m pc ls (.int i :: .ref (ad k) :: rest)) := by
  refine x_zald hexec hb hK hH (mw_ar hρ hc.1 hc.2.1 hc.2.2.1 hc.2.2.2.1) (vI_in hi hj hc.2.2.2.2) hdg ?_
  rw [hi, nI_clamp (Nat.lt_trans hj hc.2.2.2.2)]
  exact kk
theorem M_iast (hexec : p.tables.exec = Jvm.exec) (hb : c.code = cc) (hK : xK G s) (hρ : mA ρ ad) (hH : xH G A H0 H locs (mw G ρ ad b I F)) (k n : Nat) (hc : mlive k = true ∧ k ≠ 0 ∧ mlen k = n ∧ mz k = 0 ∧ n < 2 ^ 31) {i x : Int32} (j : Nat) (hi : i = nI j) (hj : j < n) (hdg : decode cc pc = .ok (.iastore, 1))
    (kk : ∀ (H1 : Heap) (locs1 : List Loc), xH G A H0 H1 locs1 (mw G ρ ad b I (setA F k j x)) → W p l e R s m args below meth c H1 locs1 cells slots Q (F0 m (pc + 1) ls rest)) : W p l e R s m args below meth c H locs cells slots Q (F0 m pc ls (.int x :: .int i :: .ref (ad k) :: rest)) := by
  refine x_iast hexec hb hK hH (mw_ar hρ hc.1 hc.2.1 hc.2.2.1 hc.2.2.2.1) (vI_in hi hj hc.2.2.2.2) hdg (fun H1 locs1 h => kk H1 locs1 ?_)
  rw [mw_upF hρ hc.1 hc.2.1 hc.2.2.1 hc.2.2.2.1, hi, nI_clamp (Nat.lt_trans hj hc.2.2.2.2)] at h
  exact h
theorem M_zast (hexec : p.tables.exec = Jvm.exec) (hb : c.code = cc) (hK : xK G s) (hρ : mA ρ ad) (hH : xH G A H0 H locs (mw G ρ ad b I F)) (k n : Nat) (hc : mlive k = true ∧ k ≠ 0 ∧ mlen k = n ∧ mz k = 1 ∧ n < 2 ^ 31) {i x : Int32} (j : Nat) (hi : i = nI j) (hj : j < n) (hx : vp_nar .boolean x = x) (hdg : decode cc pc = .ok (.bastore, 1))
    (kk : ∀ (H1 : Heap) (locs1 : List Loc), xH G A H0 H1 locs1 (mw G ρ ad b I (setA F k j x)) → W p l e R s m args below meth c H1 locs1 cells slots Q (F0 m (pc + 1) ls rest)) : W p l e R s m args below meth c H locs cells slots Q (F0 m pc ls (.int x :: .int i :: .ref (ad k) :: rest)) := by
  refine x_zast hexec hb hK hH (mw_ar hρ hc.1 hc.2.1 hc.2.2.1 hc.2.2.2.1) (vI_in hi hj hc.2.2.2.2) hdg (fun H1 locs1 h => kk H1 locs1 ?_)
  rw [mw_upF hρ hc.1 hc.2.1 hc.2.2.1 hc.2.2.2.1, hi, nI_clamp (Nat.lt_trans hj hc.2.2.2.2), hx] at h
  exact h
/-- rows over numbers that aren't negative -/
theorem N_iadd (hexec : p.tables.exec = Jvm.exec) (hb : c.code = cc) {x y : Int32} (i j : Nat) (hx : x = nI i) (hy : y = nI j) (hdg : decode cc pc = .ok (.iadd, 1)) (kk : W p l e R s m args below meth c H locs cells slots Q (F0 m (pc + 1) ls (.int (nI (i + j)) :: rest))) : W p l e R s m args below meth c H locs cells slots Q (F0 m pc ls (.int y :: .int x :: rest)) := by
  refine lv_iadd hexec hb hdg ?_
  rw [hx, hy, nI_add]
  exact kk
theorem N_imul (hexec : p.tables.exec = Jvm.exec) (hb : c.code = cc) {x y : Int32} (i j : Nat) (hx : x = nI i) (hy : y = nI j) (hdg : decode cc pc = .ok (.imul, 1)) (kk : W p l e R s m args below meth c H locs cells slots Q (F0 m (pc + 1) ls (.int (nI (i * j)) :: rest))) : W p l e R s m args below meth c H locs cells slots Q (F0 m pc ls (.int y :: .int x :: rest)) := by
  refine lv_imul hexec hb hdg ?_
  rw [hx, hy, pk_mul]
  exact kk
theorem N_isub (hexec : p.tables.exec = Jvm.exec) (hb : c.code = cc) {x y : Int32} (i j : Nat) (hx : x = nI i) (hy : y = nI j) (h : j ≤ i) (hdg : decode cc pc = .ok (.isub, 1)) (kk : W p l e R s m args below meth c H locs cells slots Q (F0 m (pc + 1) ls (.int (nI (i - j)) :: rest))) : W p l e R s m args below meth c H locs cells slots Q (F0 m pc ls (.int y :: .int x :: rest)) := by
  refine lv_isub hexec hb hdg ?_
  rw [hx, hy, pk_sub h]
  exact kk
theorem N_idiv (hexec : p.tables.exec = Jvm.exec) (hb : c.code = cc) {x y : Int32} (i j : Nat) (hx : x = nI i) (hy : y = nI j) (hi : i < 2 ^ 31) (h0 : 0 < j) (hj : j < 2 ^ 31) (hdg : decode cc pc = .ok (.idiv, 1)) (kk : W p l e R s m args below meth c H locs cells slots Q (F0 m (pc + 1) ls (.int (nI (i / j)) :: rest))) : W p l e R s m args below meth c H locs cells slots Q (F0 m pc ls (.int y :: .int x :: rest)) := by
  refine lv_idiv hexec hb hdg (by rw [hy]; exact nI_ne0 h0 hj) ?_
  rw [hx, hy, pk_div hi h0 hj]
  exact kk
theorem N_irem (hexec : p.tables.exec = Jvm.exec) (hb : c.code = cc) {x y : Int32} (i j : Nat) (hx : x = nI i) (hy : y = nI j) (hi : i < 2 ^ 31) (h0 : 0 < j) (hj : j < 2 ^ 31) (hdg : decode cc pc = .ok (.irem, 1)) (kk : W p l e R s m args below meth c H locs cells slots Q (F0 m (pc + 1) ls (.int (nI (i % j)) :: rest))) : W p l e R s m args below meth c H locs cells slots Q (F0 m pc ls (.int y :: .int x :: rest)) := by
  refine lv_irem hexec hb hdg (by rw [hy]; exact nI_ne0 h0 hj) ?_
  rw [hx, hy, pk_rem hi h0 hj]
  exact kk
end MR
