section XAW
variable {p : Program} {l : Launch} {e : Env} {R : Room} {s : State} {m : MethodId} {args : Array Value} {below : List Frame} {meth : Method} {c : Code} {H : Heap} {locs : List Loc} {cells slots : Nat} {Q : State → Prop}
variable {cc : ByteArray} {pc : Nat} {ls : Array Slot} {rest : List Value} {G : XG} {A : Nat → Prop} {a : Nat} {w : XW} {H0 : Heap}
/-- an object into a row of its own class -/
theorem x_astW (hexec : p.tables.exec = Jvm.exec) (hb : c.code = cc) {z ci : Nat} {r : vw_C} (hz : (xt G)[z]? = some (G.2 z, .object r.1)) (hK : xK G s) (hH : xH G A H0 H locs w) {n v : Nat} {vs : List Value} {f : Nat → Option Nat} (ha : w a = some (.inl (G.2 z, n, .inr (.inr (.inr (.inr f)))))) (hv : w v = some (.inr (ci, vs))) (hc : vwCl[ci]? = some r) {i : Int32} (j : Nat) (hi : i = nI j) (hj : j < n) (hn : n < 2 ^ 31) (hdg : decode cc pc = .ok (.aastore, 1))
    (kk : ∀ (H1 : Heap) (locs1 : List Loc), xH G A H0 H1 locs1 (va_up w a (some (.inl (G.2 z, n, .inr (.inr (.inr (.inr (va_up f j (some v))))))))) → W p l e R s m args below meth c H1 locs1 cells slots Q (F0 m (pc + 1) ls rest)) : W p l e R s m args below meth c H locs cells slots Q (F0 m pc ls (.ref v :: .int i :: .ref a :: rest)) := by
  obtain ⟨hA, hS, ws, hP, hD, hm⟩ := hH
  obtain ⟨q0, hq⟩ := (hm _ _).mpr ha
  obtain ⟨qk, hqk⟩ := (hm _ _).mpr hv
  refine va_astq hexec hb hK hP hD hS q0 z qk ci hq hz hqk hc (vI_in hi hj hn) hdg (fun H1 locs1 hP1 hD1 hS1 => kk H1 locs1 ?_)
  rw [hi, nI_clamp (by omega)] at hP1 hD1
  exact ⟨hA, hS1, xM_set hD hm hq hP1 hD1⟩
end XAW
