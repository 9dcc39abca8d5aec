section XQ
variable {p : Program} {l : Launch} {e : Env} {R : Room} {s : State} {m : MethodId} {args : Array Value} {below : List Frame} {meth : Method} {c : Code} {H : Heap} {locs : List Loc} {cells slots : Nat} {Q : State → Prop}
variable {cc : ByteArray} {pc : Nat} {ls : Array Slot} {rest : List Value} {G : XG} {A : Nat → Prop} {a : Nat} {w : XW} {H0 : Heap}
/-- a new row of Objects -/
theorem x_newq (hexec : p.tables.exec = Jvm.exec) (hb : c.code = cc) {own : String} {index : Nat} {z : Nat} {C : String} (hz : (xt G)[z]? = some (G.2 z, .object C)) (hown : s.vm.findClass own = some m.cls) (hclink : (Cond.classLink own index C).before args s = true) (hover : va_AO C s) (hK : xK G s) (hH : xH G A H0 H locs w)
    {n : Int32} (N' : Nat) (hn : n = nI N') (hN : N' ≤ 100000) (hcells : cells + 1 ≤ R.cells) (hslots : slots + N' ≤ R.slots) (hdg : decode cc pc = .ok (.anewarray index, 3))
    (kk : ∀ (q : Nat) (H1 : Heap), w q = none → xH G A H0 H1 locs (va_up w q (some (.inl (G.2 z, N', .inr (.inr (.inr (.inr (fun _ => none)))))))) →
      W p l e R s m args below meth c H1 locs (cells + 1) (slots + N') Q (F0 m (pc + 3) ls (.ref q :: rest))) : W p l e R s m args below meth c H locs cells slots Q (F0 m pc ls (.int n :: rest)) := by
  obtain ⟨hA, hS, ws, hP, hD, hm⟩ := hH
  refine va_newq hexec hb hown hclink hover hK hP hD hS hA (N' := N') (by rw [hn]; exact nI_pos (by omega)) (by rw [hn]; exact nI_clamp (by omega)) (by omega) hcells hslots hdg (fun q cB H1 hK1 hP1 hD1 hS1 => ?_)
  have e1 := (hK1.2 (xt G).length (cB, .object C) (by simp)).2
  have e2 := (hK.2 z _ hz).2
  obtain ⟨k1, c1, -, -, -, f1⟩ := e1
  obtain ⟨k2, c2, -, -, -, f2⟩ := e2
  have e : cB = G.2 z := Option.some.inj (f1.symm.trans f2)
  subst e
  exact kk q H1 (xM_push hm hP1 hD1).2 ⟨hA, hS1, (xM_push hm hP1 hD1).1⟩
/-- an object into a row of Objects -/
theorem x_astO (hexec : p.tables.exec = Jvm.exec) (hb : c.code = cc) {z ci : Nat} {E : String} {r : vw_C} (hz : (xt G)[z]? = some (G.2 z, .object E)) (hK : xK G s) (hH : xH G A H0 H locs w) (hca : va_Nw (.castable r.1 E) s) {n v : Nat} {vs : List Value} {f : Nat → Option Nat} (ha : w a = some (.inl (G.2 z, n, .inr (.inr (.inr (.inr f)))))) (hv : w v = some (.inr (ci, vs))) (hc : vwCl[ci]? = some r) {i : Int32} (j : Nat) (hi : i = nI j) (hj : j < n) (hn : n < 2 ^ 31) (hdg : decode cc pc = .ok (.aastore, 1))
    (kk : ∀ (H1 : Heap) (locs1 : List Loc), xH G A H0 H1 locs1 (va_up w a (some (.inl (G.2 z, n, .inr (.inr (.inr (.inr (va_up f j (some v))))))))) → W p l e R s m args below meth c H1 locs1 cells slots Q (F0 m (pc + 1) ls rest)) : W p l e R s m args below meth c H locs cells slots Q (F0 m pc ls (.ref v :: .int i :: .ref a :: rest)) := by
  obtain ⟨hA, hS, ws, hP, hD, hm⟩ := hH
  obtain ⟨q0, hq⟩ := (hm _ _).mpr ha
  obtain ⟨qk, hqk⟩ := (hm _ _).mpr hv
  refine va_astqO hexec hb hK hP hD hS q0 z qk ci hq hz hca hqk hc (vI_in hi hj hn) hdg (fun H1 locs1 hP1 hD1 hS1 => kk H1 locs1 ?_)
  rw [hi, nI_clamp (by omega)] at hP1 hD1
  exact ⟨hA, hS1, xM_set hD hm hq hP1 hD1⟩
/-- System.arraycopy of a row of Objects' beginning -/
theorem x_copyq (hexec : p.tables.exec = Jvm.exec) (hb : c.code = cc) (hml : c.maxLocals = ls.size) {own : String} {index : Nat} (hown : s.vm.findClass own = some m.cls) (hlink : (Cond.methodLink own index arraycopyName).before args s = true) (hnat : (Cond.native arraycopyName).before args s = true) (hstat : (Cond.static arraycopyName).before args s = true) (hini : (Cond.initialized "java/lang/System").before args s = true)
    (hK : xK G s) (hH : xH G A H0 H locs w) {a0 n0 n1 ci : Nat} {r : vw_C} {f g : Nat → Option Nat} (ha0 : w a0 = some (.inl (G.2 4, n0, .inr (.inr (.inr (.inr f)))))) (ha1 : w a = some (.inl (G.2 4, n1, .inr (.inr (.inr (.inr g)))))) (hc : vwCl[ci]? = some r) (hca : va_Nw (.castable r.1 "java/lang/Object") s) (hel : ∀ i y : Nat, f i = some y → ∃ vs, w y = some (.inr (ci, vs))) {n : Int32} (k : Nat) (hn : n = nI k) (hk0 : k ≤ n0) (hk1 : k ≤ n1) (hb1 : n1 < 2 ^ 31)
    (hframes : 1 ≤ R.frames) (hlocals : (rest.map fun v => v.category).sum + (nativeFrameWords "java/lang/System" "arraycopy" 5 + 11) ≤ R.locals) (hdg : decode cc pc = .ok (.invokestatic index, 3))
    (kk : ∀ (H1 : Heap) (locs1 : List Loc), xH G A H0 H1 locs1 (va_up w a (some (.inl (G.2 4, n1, .inr (.inr (.inr (.inr (va_cpy f g 0 0 k)))))))) → W p l e R s m args below meth c H1 locs1 cells slots Q (F0 m (pc + 3) ls rest)) : W p l e R s m args below meth c H locs cells slots Q (F0 m pc ls (.int n :: .int 0 :: .ref a :: .int 0 :: .ref a0 :: rest)) := by
  obtain ⟨hA, hS, ws, hP, hD, hm⟩ := hH
  obtain ⟨q0, hq0⟩ := (hm _ _).mpr ha0
  obtain ⟨q1, hq1⟩ := (hm _ _).mpr ha1
  have hkc : n.toNatClampNeg = k := by rw [hn]; exact nI_clamp (by omega)
  refine va_copyq (C := r.1) hexec hb hml hown hlink hnat hstat hini hK hP hD hS q0 q1 4 4 hq0 hq1 rfl rfl (by decide) (by decide) (by rw [hn]; exact nI_pos (by omega)) (by rw [hkc]; show 0 + k ≤ n0; omega) (by rw [hkc]; show 0 + k ≤ n1; omega) (fun i _ y hy => ?_) (fun comp c0 h1 h2 => ?_) hframes hlocals hdg (fun H1 locs1 hP1 hD1 hS1 => kk H1 locs1 ?_)
  · obtain ⟨vs, hv⟩ := hel _ y hy
    obtain ⟨qk, hqk⟩ := (hm _ _).mpr hv
    exact va_recv hK hP hc hqk
  · obtain ⟨c1, t1, f1, f2, f3⟩ := Cond.castable_spec (va_Nw.use (A := args) rfl hca)
    cases h2.symm.trans f1
    cases h1.symm.trans f2
    exact f3
  · rw [hkc] at hP1 hD1
    exact ⟨hA, hS1, xM_set hD hm hq1 hP1 hD1⟩
end XQ
