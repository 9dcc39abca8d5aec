/-! ROWS OF ROWS OF INTS: making one, reading a row of it -/
theorem xM_add {G : XG} {A : Nat → Prop} {w : XW} {H : Heap} {q : Nat} {e1 : va_E} (h : xM G A w H) (hq : w q = none) (hA : A q) (hat : va_at G.1 vwCl (q, e1) H) : xM G A (va_up w q (some e1)) H := by
  obtain ⟨ws, hP, hD, hm⟩ := h
  have hno : ∀ (j : Nat) (x : Nat × va_E), ws[j]? = some x → x.1 ≠ q := fun j x hj he => by
    have := (hm x.1 x.2).mp ⟨j, hj⟩
    rw [he, hq] at this
    cases this
  have hget : ∀ (k : Nat) (x : Nat × va_E), (ws ++ [(q, e1)])[k]? = some x → (k < ws.length ∧ ws[k]? = some x) ∨ (k = ws.length ∧ x = (q, e1)) := fun k x hx => by
    by_cases hl : k < ws.length
    · rw [List.getElem?_append_left hl] at hx
      exact Or.inl ⟨hl, hx⟩
    · rw [List.getElem?_append_right (by omega)] at hx
      have h0 : k - ws.length < 1 := (List.getElem?_eq_some_iff.mp hx).1
      rw [show k - ws.length = 0 by omega] at hx
      cases hx
      exact Or.inr ⟨by omega, rfl⟩
  refine (xM_push (G := G) (A := A) (w := w) (H1 := H) hm ?_ ?_).1
  · intro k x hx
    rcases hget k x hx with ⟨-, h1⟩ | ⟨-, rfl⟩
    · exact hP k x h1
    · exact hat
  · refine ⟨fun i j x y hi hj he => ?_, fun k x hx => ?_⟩
    · rcases hget i x hi with ⟨-, h1⟩ | ⟨rfl, rfl⟩
      · rcases hget j y hj with ⟨-, h2⟩ | ⟨rfl, rfl⟩
        · exact hD.1 i j x y h1 h2 he
        · exact absurd he (hno i x h1)
      · rcases hget j y hj with ⟨-, h2⟩ | ⟨rfl, rfl⟩
        · exact absurd he.symm (hno j y h2)
        · rfl
    · rcases hget k x hx with ⟨-, h1⟩ | ⟨-, rfl⟩
      · exact hD.2 k x h1
      · exact hA
theorem xM_kept {G : XG} {A : Nat → Prop} {w : XW} {H H1 : Heap} (h : xM G A w H) (hk : ∀ x : Nat, x < H.size → H1[x]? = H[x]?) : xM G A w H1 := by
  obtain ⟨ws, hP, hD, hm⟩ := h
  exact ⟨ws, hP.kept (fun k x hx => hk x.1 ((hP k x hx).lt)), hD, hm⟩
theorem xM_fresh {G : XG} {A : Nat → Prop} {w : XW} {H : Heap} (h : xM G A w H) {q : Nat} (hq : H.size ≤ q) : w q = none := by
  obtain ⟨ws, hP, hD, hm⟩ := h
  cases hw : w q with
  | none => rfl
  | some e =>
    obtain ⟨k, hk⟩ := (hm q e).mpr hw
    have := (hP k _ hk).lt
    omega
def xgrid (G : XG) (w : XW) (q : Nat) : XW := va_up (va_up (va_up (va_up (va_up (va_up (va_up w q (some (.inl (G.2 5, 6, .inr (.inr (.inr (.inr (fun i => if i < 6 then some (q + 1 + i) else none)))))))) (q + 1) (some (.inl (G.2 0, 20, .inl (fun _ => 0))))) (q + 2) (some (.inl (G.2 0, 20, .inl (fun _ => 0))))) (q + 3) (some (.inl (G.2 0, 20, .inl (fun _ => 0))))) (q + 4) (some (.inl (G.2 0, 20, .inl (fun _ => 0))))) (q + 5) (some (.inl (G.2 0, 20, .inl (fun _ => 0))))) (q + 6) (some (.inl (G.2 0, 20, .inl (fun _ => 0))))
section XGR
variable {p : Program} {l : Launch} {e : Env} {R : Room} {s : State} {m : MethodId} {args : Array Value} {below : List Frame} {meth : Method} {c : Code} {H : Heap} {locs : List Loc} {cells slots : Nat} {Q : State → Prop}
variable {cc : ByteArray} {pc : Nat} {ls : Array Slot} {rest : List Value} {G : XG} {A : Nat → Prop} {a : Nat} {w : XW} {H0 : Heap}
theorem x_mna (hexec : p.tables.exec = Jvm.exec) (hb : c.code = cc) {own : String} {index : Nat} (hown : s.vm.findClass own = some m.cls) (hclink : (Cond.classLink own index "[[I").before args s = true) (hover : xAA s) (harr : (Cond.arrayClass .int).before args s = true) (hK : xK G s) (hH : xH G A H0 H locs w) (hcells : cells + 7 ≤ R.cells) (hslots : slots + 126 ≤ R.slots) (hdg : decode cc pc = .ok (.multianewarray index 2, 4))
    (kk : ∀ (q : Nat) (H1 : Heap), (∀ i, i < 7 → w (q + i) = none) → xH G A H0 H1 locs (xgrid G w q) → W p l e R s m args below meth c H1 locs (cells + 7) (slots + 126) Q (F0 m (pc + 4) ls (.ref q :: rest))) : W p l e R s m args below meth c H locs cells slots Q (F0 m pc ls (.int 20 :: .int 6 :: rest)) := by
  obtain ⟨hA, hS, hM⟩ := hH
  intro T hT Xs
  obtain ⟨vm₁, cA, comp, -, fA, fC, hO, -, X', step⟩ := Xs.multianewarray2F (ty := .int) hexec hown (index := index) hclink hover harr (g := F0 m pc ls (.int 20 :: .int 6 :: rest)) rfl (by rw [hb]; exact hdg) rfl (by decide) (by decide) (by decide) (by decide) (by decide) (by decide) (by decide) hcells hslots
  have ec : comp = G.2 0 := Option.some.inj (fC.symm.trans (hK.2 0 (G.2 0, .int) rfl).2)
  have ea : cA = G.2 5 := Option.some.inj (fA.symm.trans (hK.2 5 (G.2 5, .array .int) rfl).2)
  subst ec
  subst ea
  generalize hF : Jvm.Free.Multi.fill (T.setVm vm₁) (G.2 5) (G.2 0) (6 : Int32).toNatClampNeg (20 : Int32).toNatClampNeg (defaultValue .int) (6 : Int32).toNatClampNeg = F at X' step
  have hTh : (T.setVm vm₁).heap = H := hT
  obtain ⟨f1, f2, -, -⟩ := Jvm.Free.Multi.fill_facts (T.setVm vm₁) (G.2 5) (G.2 0) (6 : Int32).toNatClampNeg (20 : Int32).toNatClampNeg (defaultValue .int) (6 : Int32).toNatClampNeg
  rw [hF, hTh] at f1 f2
  have hold : ∀ x : Nat, x < H.size → F.heap[x]? = H[x]? := fun x hx => by
    have := Jvm.Free.Multi.fill_old (T.setVm vm₁) (G.2 5) (G.2 0) (6 : Int32).toNatClampNeg (20 : Int32).toNatClampNeg (defaultValue .int) (a := x) (by rw [hTh]; exact hx) (6 : Int32).toNatClampNeg
    rw [hF, hTh] at this
    exact this
  have hin : Jvm.Free.Multi.innerC (G.2 0) 20 (defaultValue .int) = vp_cell (G.2 0) (20, .inl (fun _ => 0)) := by
    rw [vp_cell_i]
    show ({ cls := G.2 0, slots := Array.replicate 20 (.int 0), vm := .none } : Cell) = _
    rw [arrV_new]
  have hrow : ∀ j : Nat, j < 6 → F.heap[H.size + 1 + j]? = some (vp_cell (G.2 0) (20, .inl (fun _ => 0))) := fun j hj => by
    have := Jvm.Free.Multi.fill_inner (T.setVm vm₁) (G.2 5) (G.2 0) (6 : Int32).toNatClampNeg (20 : Int32).toNatClampNeg (defaultValue .int) (6 : Int32).toNatClampNeg j hj
    rw [hF, hTh] at this
    exact this.trans (congrArg some hin)
  have hout : Jvm.Free.Multi.outerC (G.2 5) 6 H.size 6 = vp_cell (G.2 5) (6, .inr (.inr (.inr (.inr (fun i => if i < 6 then some (H.size + 1 + i) else none))))) := by
    rw [vp_cell_q]
    exact vr_outer (G.2 5) 6 H.size 6
  have f2 : F.heap[H.size]? = some (Jvm.Free.Multi.outerC (G.2 5) 6 H.size 6) := f2
  rw [hout] at f2
  have hz : ∀ i : Nat, w (H.size + i) = none := fun i => xM_fresh hM (by omega)
  have hAA : ∀ i : Nat, A (H.size + i) := fun i => hA _ (by have := hS.1; omega)
  have M0 := xM_kept (H1 := F.heap) hM hold
  have M1 := xM_add (e1 := .inl (G.2 5, 6, .inr (.inr (.inr (.inr (fun i => if i < 6 then some (H.size + 1 + i) else none)))))) M0 (hz 0) (hAA 0) f2
  have M2 := xM_add (e1 := .inl (G.2 0, 20, .inl (fun _ => 0))) M1 (q := H.size + 1) (by simp [va_up, hz]) (hAA 1) (hrow 0 (by decide))
  have M3 := xM_add (e1 := .inl (G.2 0, 20, .inl (fun _ => 0))) M2 (q := H.size + 2) (by simp [va_up, hz]) (hAA 2) (hrow 1 (by decide))
  have M4 := xM_add (e1 := .inl (G.2 0, 20, .inl (fun _ => 0))) M3 (q := H.size + 3) (by simp [va_up, hz]) (hAA 3) (hrow 2 (by decide))
  have M5 := xM_add (e1 := .inl (G.2 0, 20, .inl (fun _ => 0))) M4 (q := H.size + 4) (by simp [va_up, hz]) (hAA 4) (hrow 3 (by decide))
  have M6 := xM_add (e1 := .inl (G.2 0, 20, .inl (fun _ => 0))) M5 (q := H.size + 5) (by simp [va_up, hz]) (hAA 5) (hrow 4 (by decide))
  have M7 := xM_add (e1 := .inl (G.2 0, 20, .inl (fun _ => 0))) M6 (q := H.size + 6) (by simp [va_up, hz]) (hAA 6) (hrow 5 (by decide))
  have hf1 : F.heap.size = H.size + 1 + 6 := f1
  obtain ⟨t, a1, b1⟩ := kk H.size F.heap (fun i _ => hz i) ⟨hA, ⟨by rw [hf1]; have := hS.1; omega, fun x h1 h2 => (hold x (Nat.lt_of_lt_of_le h1 hS.1)).trans (hS.2.1 x h1 h2), hS.2.2⟩, M7⟩ F rfl X'
  refine ⟨t, step t ?_, b1⟩
  have e : T.heap.size = H.size := by rw [hT]
  rw [e]
  exact a1
theorem x_aldA (hexec : p.tables.exec = Jvm.exec) (hb : c.code = cc) (hK : xK G s) (hH : xH G A H0 H locs w) {n : Nat} {f : Nat → Option Nat} (ha : w a = some (.inl (G.2 5, n, .inr (.inr (.inr (.inr f)))))) {i : Int32} (j : Nat) (hi : i = nI j) (hj : j < n) (hn : n < 2 ^ 31) {q : Nat} (hq : f j = some q) (hdg : decode cc pc = .ok (.aaload, 1))
    (kk : W p l e R s m args below meth c H locs cells slots Q (F0 m (pc + 1) ls (.ref q :: rest))) : W p l e R s m args below meth c H locs cells slots Q (F0 m pc ls (.int i :: .ref a :: rest)) := by
  obtain ⟨hA, hS, ws, hP, hD, hm⟩ := hH
  obtain ⟨q0, hq0⟩ := (hm _ _).mpr ha
  have hin : vp_in i n := vI_in hi hj hn
  have hlt : i.toNatClampNeg < n := Nat.not_le.mp fun q => hin (Or.inr q)
  refine W.aald (v := va_rf (f i.toNatClampNeg)) (ty := .array .int) hexec hb (hP q0 _ hq0) ((hK.2 5 (G.2 5, .array .int) rfl).1 n (fun j => va_rf (f j))) rfl (fun q => by cases q) (by show ¬ (i < 0 ∨ (arrV _ _ _).slots.size ≤ _); rw [arrV_size]; exact hin) (by show (arrV _ _ _).slots[_]? = _; rw [arrV_read _ _ hlt]) rfl rfl hdg ?_
  rw [hi, nI_clamp (by omega), hq]
  exact kk
end XGR
