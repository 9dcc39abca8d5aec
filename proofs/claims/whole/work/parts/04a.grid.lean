/-! ROWS OF ROWS OF INTS: making one, reading a row of it -/
theorem xM_add {G : XG} {A : Nat → Prop} {w : XW} {H : Heap} {q : Nat} {e1 : va_E} (h : xM G A w H) (hq : w q = none) (hA : A q) (hat : va_at G.1 vwCl (q, e1) H) : xM G A (va_up w q (some e1)) H := by
  obtain ⟨ws, hP, hD, hm⟩ := h
  have hno : ∀ (j : Nat) (x : Nat × va_E), ws[j]? = some x → x.1 ≠ q := fun j x hj he => by
    have := (hm x.1 x.2).mp ⟨j, hj⟩
    rw [he, hq] at this
    cases this
  have hget : ∀ (k : Nat) (x : Nat × va_E), (ws ++ [(q, e1)])[k]? = some x → (k < ws.length ∧ ws[k]? = some x) ∨ (k = ws.length ∧ x = (q, e1)) := fun k x hx => by
    by_cases hl : k < ws.length
    · rw [List.getElem?_append_left hl] at hx
      exact Or.inl ⟨hl, hx⟩
    · rw [List.getElem?_append_right (by omega)] at hx
      have h0 : k - ws.length < 1 := (List.getElem?_eq_some_iff.mp hx).1
      rw [show k - ws.length = 0 by omega] at hx
      cases hx
      exact Or.inr ⟨by omega, rfl⟩
  refine (xM_push (G := G) (A := A) (w := w) (H1 := H) hm ?_ ?_).1
  · intro k x hx
    rcases hget k x hx with ⟨-, h1⟩ | ⟨-, rfl⟩
    · exact hP k x h1
    · exact hat
  · refine ⟨fun i j x y hi hj he => ?_, fun k x hx => ?_⟩
    · rcases hget i x hi with ⟨-, h1⟩ | ⟨rfl, rfl⟩
      · rcases hget j y hj with ⟨-, h2⟩ | ⟨rfl, rfl⟩
        · exact hD.1 i j x y h1 h2 he
        · exact absurd he (hno i x h1)
      · rcases hget j y hj with ⟨-, h2⟩ | ⟨rfl, rfl⟩
        · exact absurd he.symm (hno j y h2)
        · rfl
    · rcases hget k x hx with ⟨-, h1⟩ | ⟨-, rfl⟩
      · exact hD.2 k x h1
      · exact hA
theorem xM_kept {G : XG} {A : Nat → Prop} {w : XW} {H H1 : Heap} (h : xM G A w H) (hk : ∀ x : Nat, x < H.size → H1[x]? = H[x]?) : xM G A w H1 := by
  obtain ⟨ws, hP, hD, hm⟩ := h
  exact ⟨ws, hP.kept (fun k x hx => hk x.1 ((hP k x hx).lt)), hD, hm⟩
theorem xM_fresh {G : XG} {A : Nat → Prop} {w : XW} {H : Heap} (h : xM G A w H) {q : Nat} (hq : H.size ≤ q) : w q = none := by
  obtain ⟨ws, hP, hD, hm⟩ := h
  cases hw : w q with
  | none => rfl
  | some e =>
    obtain ⟨k, hk⟩ := (hm q e).mpr hw
    have := (hP k _ hk).lt
    omega
def xgrid (G : XG) (w : XW) (q : Nat) : XW := va_up (va_up (va_up (va_up (va_up (va_up (va_up w q (some (.inl (G.2 5, 6, .inr (.inr (.inr (.inr (fun i => if i < 6 then some (q + 1 + i) else none)))))))) (q + 1) (some (.inl (G.2 0, 20, .inl (fun _ => 0))))) (q + 2) (some (.inl (G.2 0, 20, .inl (fun _ => 0))))) (q + 3) (some (.inl (G.2 0, 20, .inl (fun _ => 0))))) (q + 4) (some (.inl (G.2 0, 20, .inl (fun _ => 0))))) (q + 5) (some (.inl (G.2 0, 20, .inl (fun _ => 0))))) (q + 6) (some (.inl (G.2 0, 20, .inl (fun _ => 0))))
/-! new int[6][20], out of the machine's own step -/
/-- the outer row, i of its six rows made -/
def gO (c : ClassId) (q i : Nat) : Cell := arrV c 6 (fun j => va_rf (if j < i then some (q + 1 + j) else none))
/-- a row of twenty -/
def gI (c : ClassId) : Cell := arrV c 20 (fun _ => .int 0)
theorem gO_next (c : ClassId) (q i : Nat) : (gO c q i).setSlot i (.ref (q + 1 + i)) = gO c q (i + 1) := by
  unfold gO
  rw [arrV_store]
  refine congrArg (arrV c 6) (funext fun j => ?_)
  by_cases e : j = i
  · subst e
    simp [updV, va_rf]
  · have e1 : (j < i + 1) = (j < i) := propext (by omega)
    simp only [updV, if_neg e, e1]
/-- the world, i rows made -/
def gS (T : State) (cA cI : ClassId) : Nat → State
  | 0 => T.pushCell (gO cA T.heap.size 0)
  | i + 1 => ((gS T cA cI i).pushCell (gI cI)).setCell T.heap.size (gO cA T.heap.size (i + 1))
/-- what stands in it -/
def gH (T U : State) (cA cI : ClassId) (i : Nat) : Prop := U.vm = T.vm ∧ U.heap.size = T.heap.size + 1 + i ∧ U.slotsUsed = T.slotsUsed + 6 + 20 * i ∧ U.heap[T.heap.size]? = some (gO cA T.heap.size i) ∧ (∀ x, x < T.heap.size → U.heap[x]? = T.heap[x]?) ∧ ∀ j, j < i → U.heap[T.heap.size + 1 + j]? = some (gI cI)
theorem gS_ok (T : State) (cA cI : ClassId) : ∀ i : Nat, gH T (gS T cA cI i) cA cI i
  | 0 => ⟨rfl, size_pushCell _ _, by show T.slotsUsed + (gO cA T.heap.size 0).slots.size = _; rw [show (gO cA T.heap.size 0).slots.size = 6 from arrV_size _ _ _], State.heap_pushCell_size _ _, fun x hx => State.heap_pushCell_of_lt _ _ hx, fun j hj => absurd hj (Nat.not_lt_zero j)⟩
  | i + 1 => by
    obtain ⟨h1, h2, h3, h4, h5, h6⟩ := gS_ok T cA cI i
    have hlo : ∀ x, x < T.heap.size + 1 + i → ((gS T cA cI i).pushCell (gI cI)).heap[x]? = (gS T cA cI i).heap[x]? := fun x hx => State.heap_pushCell_of_lt _ _ (by rw [h2]; exact hx)
    have hat : ((gS T cA cI i).pushCell (gI cI)).heap[T.heap.size]? = some (gO cA T.heap.size i) := (hlo _ (by omega)).trans h4
    refine ⟨h1, ?_, ?_, State.heap_setCell_self hat, fun x hx => ?_, fun j hj => ?_⟩
    · show (((gS T cA cI i).pushCell (gI cI)).setCell _ _).heap.size = _
      rw [size_setCell, size_pushCell, h2]
      omega
    · show (gS T cA cI i).slotsUsed + (gI cI).slots.size = _
      rw [show (gI cI).slots.size = 20 from arrV_size _ _ _, h3]
      omega
    · show (((gS T cA cI i).pushCell (gI cI)).setCell _ _).heap[x]? = _
      rw [State.heap_setCell_other (Nat.ne_of_gt hx), hlo x (by omega)]
      exact h5 x hx
    · show (((gS T cA cI i).pushCell (gI cI)).setCell _ _).heap[_]? = _
      rw [State.heap_setCell_other (show T.heap.size ≠ T.heap.size + 1 + j by omega)]
      by_cases hl : j < i
      · rw [hlo _ (by omega)]
        exact h6 j hl
      · rw [show T.heap.size + 1 + j = (gS T cA cI i).heap.size by rw [h2]; omega]
        exact State.heap_pushCell_size _ _
section GWP
variable {E : CtlPost} {e : Env}
theorem g_new {S : State} {c c0 : ClassId} {k : Class} {ty : FieldType} {n : Nat} {v : Value} (hk : S.vm.classes[c]? = some k) (hkind : k.kind = .array c0 ty) (hl : n ≤ e.platform.arrayLengthLimit) (hb : n * componentBytes ty ≤ e.platform.maxHeapBytes) (hv : fits ty v = true) (h1 : S.heap.size < e.platform.maxCells) (h2 : S.slotsUsed + n ≤ e.platform.maxSlots) {Q : Addr → Pre} (d : Bool) (acts : List Action) (hq : ∀ acts', Q S.heap.size d acts' (S.pushCell (arrV c n (fun _ => v)))) : wp (Jvm.newArray c n v) Q E e d acts S := by
  have hfit : ∀ (i : Nat) (x : Value), (Array.replicate n v)[i]? = some x → S.fitsSlot c .none i x = true := fun i x hx => by
    have ex : v = x := (Array.getElem?_eq_some_iff.mp hx).2 ▸ (Array.getElem_replicate ..).symm
    rw [← ex]
    simp [State.fitsSlot, State.slotType?, hk, hkind, hv]
  simp only [Jvm.newArray, Jvm.arrayFits, wp_bind', Jvm.W.ask, Jvm.W.ite, wp_pure', Jvm.W.theClass, hk, hkind, Jvm.W.alloc, Jvm.W.stop, Option.some.injEq, exists_eq_left', Array.size_replicate, if_neg (Nat.not_lt.mpr hl), if_neg (Nat.not_lt.mpr hb), if_neg (show ¬ n > e.platform.maxSlots by omega)]
  refine ⟨h1, h2, hfit, ?_⟩
  rw [arrV_new]
  exact hq _
theorem g_loop {fB : Nat → PUnit → Sem (ForInStep PUnit)} {St : Nat → State} (hs : ∀ i, i < 6 → ∀ (Q1 : ForInStep PUnit → Pre) (d : Bool) (acts : List Action), (∀ d' acts', Q1 (ForInStep.yield PUnit.unit) d' acts' (St (i + 1))) → wp (fB i PUnit.unit) Q1 E e d acts (St i)) {Q : PUnit → Pre} (hq : ∀ d' acts', Q PUnit.unit d' acts' (St 6)) : ∀ (n i : Nat), i + n = 6 → ∀ (d : Bool) (acts : List Action), wp (forIn (List.range' i n 1) PUnit.unit fB) Q E e d acts (St i)
  | 0, i, h, d, acts => by
    have e6 : i = 6 := by omega
    subst e6
    simp only [List.range'_zero, List.forIn_nil, wp_pure']
    exact hq _ _
  | n + 1, i, h, d, acts => by
    rw [List.range'_succ, List.forIn_cons, wp_bind']
    exact hs i (by omega) _ d acts fun d' acts' => g_loop hs hq n (i + 1) (by omega) d' acts'
theorem g_make {U : State} {f : JFrame} {cA cI c0 : ClassId} {kA kI : Class} (hA : U.vm.classes[cA]? = some kA) (hAk : kA.kind = .array cI (.array .int)) (hI : U.vm.classes[cI]? = some kI) (hIk : kI.kind = .array c0 .int) (hl : 20 ≤ e.platform.arrayLengthLimit) (hb : 80 ≤ e.platform.maxHeapBytes) (h1 : U.heap.size + 7 ≤ e.platform.maxCells) (h2 : U.slotsUsed + 126 ≤ e.platform.maxSlots) {Q : Addr → Pre} (d : Bool) (acts : List Action) (hq : ∀ d' acts', Q U.heap.size d' acts' ((gS U cA cI 6).setTop f)) : wp (multianewarray.make cA [(6 : Int32), (20 : Int32)]) Q E e d acts (U.setTop f) := by
  have e6 : (6 : Int32).toNatClampNeg = 6 := by decide
  have e20 : (20 : Int32).toNatClampNeg = 20 := by decide
  have n6 : ¬ (6 : Int32) < 0 := by decide
  have n20 : ¬ (20 : Int32) < 0 := by decide
  have z6 : ((6 : Int32) == 0) = false := by decide
  rw [multianewarray.make]
  simp only [wp_bind', Jvm.W.ite, n6, if_false, wp_pure', Jvm.W.theClass, State.vm_setTop, hA, hAk, Option.some.injEq, exists_eq_left', e6]
  refine g_new (S := U.setTop f) (n := 6) (k := kA) hA hAk (by omega) (by show 6 * 4 ≤ _; omega) rfl (by show U.heap.size < _; omega) (by show U.slotsUsed + 6 ≤ _; omega) d acts fun acts1 => ?_
  simp only [z6, Bool.false_eq_true, if_false, wp_bind', wp_pure']
  have z0 : arrV cA 6 (fun _ => Value.null) = gO cA U.heap.size 0 := congrArg (arrV cA 6) (funext fun j => by simp [va_rf])
  rw [Std.Legacy.Range.forIn_eq_forIn_range', z0, State.pushCell_setTop]
  refine g_loop (St := fun i => (gS U cA cI i).setTop f) ?_ ?_ 6 0 rfl d acts1
  · intro i hi Q1 d1 a1 hn
    obtain ⟨g1, g2, g3, g4, -, -⟩ := gS_ok U cA cI i
    have hsz : ((gS U cA cI i).setTop f).heap.size = U.heap.size + 1 + i := g2
    simp only [wp_bind']
    rw [multianewarray.make]
    simp only [wp_bind', Jvm.W.ite, n20, if_false, wp_pure', Jvm.W.theClass, State.vm_setTop, g1, hI, hIk, Option.some.injEq, exists_eq_left', e20]
    refine g_new (S := (gS U cA cI i).setTop f) (n := 20) (k := kI) (by rw [State.vm_setTop, g1]; exact hI) hIk (by omega) (by show 20 * 4 ≤ _; omega) rfl (by rw [hsz]; omega) (by show (gS U cA cI i).slotsUsed + 20 ≤ _; rw [g3]; omega) d1 a1 fun a2 => ?_
    simp only [wp_bind', Jvm.W.writeLoc, wp_pure']
    refine ⟨gO cA U.heap.size i, ?_, (fun q => by cases q), ?_, ?_, ?_⟩
    · show ((gS U cA cI i).pushCell _).heap[U.heap.size]? = _
      rw [State.heap_pushCell_of_lt _ _ (show U.heap.size < (gS U cA cI i).heap.size by rw [g2]; omega)]
      exact g4
    · rw [show (gO cA U.heap.size i).slots.size = 6 from arrV_size _ _ _]
      exact hi
    · show (((gS U cA cI i).setTop f).pushCell (arrV cI 20 (fun _ => defaultValue .int))).fitsSlot cA .none i _ = true
      simp [State.fitsSlot, State.slotType?, g1, hA, hAk, fits]
    · rw [hsz, gO_next]
      exact hn _ _
  · intro d2 a2
    exact hq _ _
end GWP
theorem g_stand {p : Program} {l : Launch} {e : Env} {R : Room} {s : State} {m : MethodId} {args : Array Value} {below : List Frame} {meth : Method} {c : Code} {T : State} {locs : List Loc} {cells slots : Nat} (X : Stand p l e R s m args below meth c T locs cells slots) (cA cI : ClassId) : ∀ i : Nat, Stand p l e R s m args below meth c (gS T cA cI i) locs (cells + 1 + i) (slots + 6 + 20 * i)
  | 0 => by
    have h := X.pushed (gO cA T.heap.size 0)
    rw [show (gO cA T.heap.size 0).slots.size = 6 from arrV_size _ _ _] at h
    exact h
  | i + 1 => by
    obtain ⟨-, g2, -, g4, -, -⟩ := gS_ok T cA cI i
    have h := (g_stand X cA cI i).pushed (gI cI)
    rw [show (gI cI).slots.size = 20 from arrV_size _ _ _] at h
    have hat : ((gS T cA cI i).pushCell (gI cI)).heap[T.heap.size]? = some (gO cA T.heap.size i) := (State.heap_pushCell_of_lt _ _ (show T.heap.size < (gS T cA cI i).heap.size by rw [g2]; omega)).trans g4
    have h3 := (h.stored hat i (.ref (T.heap.size + 1 + i))).dropFresh (fun x hx => by rw [List.mem_singleton.mp hx]; exact X.heapGrown)
    rw [gO_next] at h3
    exact h3
section XGR
variable {p : Program} {l : Launch} {e : Env} {R : Room} {s : State} {m : MethodId} {args : Array Value} {below : List Frame} {meth : Method} {c : Code} {H : Heap} {locs : List Loc} {cells slots : Nat} {Q : State → Prop}
variable {cc : ByteArray} {pc : Nat} {ls : Array Slot} {rest : List Value} {G : XG} {A : Nat → Prop} {a : Nat} {w : XW} {H0 : Heap}
theorem x_mna (hexec : p.tables.exec = Jvm.exec) (hb : c.code = cc) {own : String} {index : Nat} (hown : s.vm.findClass own = some m.cls) (hclink : (Cond.classLink own index "[[I").before args s = true) (hover : xAA s) (harr : (Cond.arrayClass .int).before args s = true) (hK : xK G s) (hH : xH G A H0 H locs w) (hcells : cells + 7 ≤ R.cells) (hslots : slots + 126 ≤ R.slots) (hdg : decode cc pc = .ok (.multianewarray index 2, 4))
    (kk : ∀ (q : Nat) (H1 : Heap), (∀ i, i < 7 → w (q + i) = none) → xH G A H0 H1 locs (xgrid G w q) → W p l e R s m args below meth c H1 locs (cells + 7) (slots + 126) Q (F0 m (pc + 4) ls (.ref q :: rest))) : W p l e R s m args below meth c H locs cells slots Q (F0 m pc ls (.int 20 :: .int 6 :: rest)) := by
  obtain ⟨hA, hS, hM⟩ := hH
  intro T hT Xs
  obtain ⟨q0, cA, kA, hq0, hkA, hkindA, hnA⟩ := hover
  obtain ⟨cI, kI, z, hnI, hkI, hkindI⟩ := Cond.arrayClass_spec harr
  have eq : q0 = G.2 0 := Option.some.inj (hq0.symm.trans (hK.2 0 (G.2 0, .int) rfl).2)
  have ec : cI = G.2 0 := Option.some.inj (hnI.symm.trans (hK.2 0 (G.2 0, .int) rfl).2)
  have ea : cA = G.2 5 := Option.some.inj (hnA.symm.trans (hK.2 5 (G.2 5, .array .int) rfl).2)
  subst eq
  subst ec
  subst ea
  obtain ⟨cL, hnL, hcl⟩ := Cond.classLink_spec hown hclink e.platform (by rw [Xs.admits.platform])
  have el : cL = G.2 5 := Option.some.inj (hnL.symm.trans (hK.2 5 (G.2 5, .array .int) rfl).2)
  subst el
  obtain ⟨hgv, hwv, -⟩ := State.classEntry (e := e) Xs.warmed hcl
  generalize T.vm.noted m.cls index (.cls (G.2 5)) = vm1 at hgv hwv
  obtain ⟨kA1, hkA1, eA1⟩ := hwv.alike.2.2 _ _ hkA
  obtain ⟨kI1, hkI1, eI1⟩ := hwv.alike.2.2 _ _ hkI
  have X1 := Xs.noted hwv
  have X6 := g_stand X1 (G.2 5) (G.2 0) 6
  have hTh : (T.setVm vm1).heap = H := hT
  have hTs : T.heap.size = H.size := by rw [hT]
  obtain ⟨-, hf1, -, f2, hold, hrows⟩ := gS_ok (T.setVm vm1) (G.2 5) (G.2 0) 6
  rw [hTh] at hf1 f2 hold hrows
  have hrow : ∀ j : Nat, j < 6 → (gS (T.setVm vm1) (G.2 5) (G.2 0) 6).heap[H.size + 1 + j]? = some (vp_cell (G.2 0) (20, .inl (fun _ => 0))) := hrows
  have f2 : (gS (T.setVm vm1) (G.2 5) (G.2 0) 6).heap[H.size]? = some (vp_cell (G.2 5) (6, .inr (.inr (.inr (.inr (fun i => if i < 6 then some (H.size + 1 + i) else none)))))) := f2
  have hz : ∀ i : Nat, w (H.size + i) = none := fun i => xM_fresh hM (by omega)
  have hAA : ∀ i : Nat, A (H.size + i) := fun i => hA _ (by have := hS.1; omega)
  have M0 := xM_kept (H1 := (gS (T.setVm vm1) (G.2 5) (G.2 0) 6).heap) hM hold
  have M1 := xM_add (e1 := .inl (G.2 5, 6, .inr (.inr (.inr (.inr (fun i => if i < 6 then some (H.size + 1 + i) else none)))))) M0 (hz 0) (hAA 0) f2
  have M2 := xM_add (e1 := .inl (G.2 0, 20, .inl (fun _ => 0))) M1 (q := H.size + 1) (by simp [va_up, hz]) (hAA 1) (hrow 0 (by decide))
  have M3 := xM_add (e1 := .inl (G.2 0, 20, .inl (fun _ => 0))) M2 (q := H.size + 2) (by simp [va_up, hz]) (hAA 2) (hrow 1 (by decide))
  have M4 := xM_add (e1 := .inl (G.2 0, 20, .inl (fun _ => 0))) M3 (q := H.size + 3) (by simp [va_up, hz]) (hAA 3) (hrow 2 (by decide))
  have M5 := xM_add (e1 := .inl (G.2 0, 20, .inl (fun _ => 0))) M4 (q := H.size + 4) (by simp [va_up, hz]) (hAA 4) (hrow 3 (by decide))
  have M6 := xM_add (e1 := .inl (G.2 0, 20, .inl (fun _ => 0))) M5 (q := H.size + 5) (by simp [va_up, hz]) (hAA 5) (hrow 4 (by decide))
  have M7 := xM_add (e1 := .inl (G.2 0, 20, .inl (fun _ => 0))) M6 (q := H.size + 6) (by simp [va_up, hz]) (hAA 6) (hrow 5 (by decide))
  obtain ⟨t, a1, b1⟩ := kk H.size (gS (T.setVm vm1) (G.2 5) (G.2 0) 6).heap (fun i _ => hz i) ⟨hA, ⟨by rw [hf1]; have := hS.1; omega, fun x h1 h2 => (hold x (Nat.lt_of_lt_of_le h1 hS.1)).trans (hS.2.1 x h1 h2), hS.2.2⟩, M7⟩ (gS (T.setVm vm1) (G.2 5) (G.2 0) 6) rfl X6
  obtain ⟨r1, r2⟩ := Xs.roomAbove hcells hslots
  refine ⟨t, ?_, b1⟩
  have hdc : decode c.code pc = .ok (.multianewarray index 2, 4) := by rw [hb]; exact hdg
  jvm_step Xs.here [hexec, hdc]
  simp only [multianewarray.sem, wp_bind', Jvm.W.resolveClassAt_links (t := T.setTop (F0 m pc ls (.int 20 :: .int 6 :: rest))) (vm' := vm1) (State.method?_setTop (F0 m pc ls (.int 20 :: .int 6 :: rest)) Xs.here.top) hgv]
  rw [Jvm.W.popN, if_neg (by decide)]
  refine ⟨F0 m pc ls (.int 20 :: .int 6 :: rest), State.topJava?_setTop' (s := T.setVm vm1) _ Xs.here.top, [.int 6, .int 20], rest, rfl, rfl, ?_⟩
  simp only [List.mapM_cons, List.mapM_nil, wp_bind', wp_pure']
  have hlim : 20 ≤ e.platform.arrayLengthLimit := by rw [Launch.admits_arrayLengthLimit Xs.admits]; decide
  have hbyt : 80 ≤ e.platform.maxHeapBytes := by rw [Launch.admits_maxHeapBytes Xs.admits]; decide
  have eS : ((T.setTop (F0 m pc ls (.int 20 :: .int 6 :: rest))).setVm vm1).setTop (F0 m pc ls rest) = (T.setVm vm1).setTop (F0 m pc ls rest) := by
    show ((T.setVm vm1).setTop _).setTop _ = _
    rw [State.setTop_setTop]
  rw [eS]
  refine g_make (U := T.setVm vm1) (f := F0 m pc ls rest) (kA := kA1) (kI := kI1) (cI := G.2 0) (c0 := z) hkA1 (by rw [eA1]; exact hkindA) hkI1 (by rw [eI1]; exact hkindI) hlim hbyt r1 r2 _ _ fun d2 acts2 => ?_
  simp only [wp_bind', Jvm.W.mark, Jvm.W.pushRef, State.topJava?_setTop' _ X6.here.top, Option.some.injEq, exists_eq_left', State.setTop_setTop]
  intro acts3
  simp [jvm, X6.here.top]
  rw [hTs]
  exact a1
theorem x_aldA (hexec : p.tables.exec = Jvm.exec) (hb : c.code = cc) (hK : xK G s) (hH : xH G A H0 H locs w) {n : Nat} {f : Nat → Option Nat} (ha : w a = some (.inl (G.2 5, n, .inr (.inr (.inr (.inr f)))))) {i : Int32} (j : Nat) (hi : i = nI j) (hj : j < n) (hn : n < 2 ^ 31) {q : Nat} (hq : f j = some q) (hdg : decode cc pc = .ok (.aaload, 1))
    (kk : W p l e R s m args below meth c H locs cells slots Q (F0 m (pc + 1) ls (.ref q :: rest))) : W p l e R s m args below meth c H locs cells slots Q (F0 m pc ls (.int i :: .ref a :: rest)) := by
  obtain ⟨hA, hS, ws, hP, hD, hm⟩ := hH
  obtain ⟨q0, hq0⟩ := (hm _ _).mpr ha
  have hin : vp_in i n := vI_in hi hj hn
  have hlt : i.toNatClampNeg < n := Nat.not_le.mp fun q => hin (Or.inr q)
  refine W.aald (v := va_rf (f i.toNatClampNeg)) (ty := .array .int) hexec hb (hP q0 _ hq0) ((hK.2 5 (G.2 5, .array .int) rfl).1 n (fun j => va_rf (f j))) rfl (fun q => by cases q) (by show ¬ (i < 0 ∨ (arrV _ _ _).slots.size ≤ _); rw [arrV_size]; exact hin) (by show (arrV _ _ _).slots[_]? = _; rw [arrV_read _ _ hlt]) rfl rfl hdg ?_
  rw [hi, nI_clamp (by omega), hq]
  exact kk
end XGR
