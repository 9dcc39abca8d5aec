/-! THE WORLD AS A MAP: an address, what lies there. G: the numbers of the classes, of the slots, of the array classes. -/
abbrev XG : Type := va_G × (Nat → ClassId)
abbrev XW : Type := Nat → Option va_E
def xt (G : XG) : List (ClassId × FieldType) := [(G.2 0, .int), (G.2 1, .boolean), (G.2 2, .byte), (G.2 3, .object "ResinWoods$Wood"), (G.2 4, .object "java/lang/Object"), (G.2 5, .array .int)]
def xK (G : XG) (U : State) : Prop := va_K G.1 vwCl (xt G) U
def xM (G : XG) (A : Nat → Prop) (w : XW) (H : Heap) : Prop := ∃ ws : va_W, va_P G.1 vwCl ws H ∧ va_D A ws ∧ ∀ (a : Nat) (e : va_E), (∃ k : Nat, ws[k]? = some (a, e)) ↔ w a = some e
def xH (G : XG) (A : Nat → Prop) (H0 H : Heap) (locs : List Loc) (w : XW) : Prop := (∀ q, H0.size ≤ q → A q) ∧ va_S A H0 H locs ∧ xM G A w H
/-- what stays at all times: static rows that nobody writes (10, 11, 12 of G), links between nest mates, the lists' interface -/
def strV (j : Nat) : Int32 := match j with
  | 0 => 6 | 1 => 5 | 2 => 4 | 3 => 3 | 4 => 2 | _ => 1
def rosV (j : Nat) : Int32 := match j with
  | 0 => 70 | 1 => 65 | 2 => 60 | _ => 55
def xSt (G : XG) (A : Nat → Prop) (U : State) (H : Heap) : Prop := va_Z "ResinWoods" "STRENGTH" "[I" (.ref (G.2 10)) A U H ∧ va_T .int (G.2 10) 10 (fun j => .int (strV j)) A U H ∧ va_Z "ResinWoods" "ROSIN_PARTS" "[I" (.ref (G.2 11)) A U H ∧ va_T .int (G.2 11) 4 (fun j => .int (rosV j)) A U H ∧ va_Z "java/util/ArrayList" "DEFAULTCAPACITY_EMPTY_ELEMENTDATA" "[Ljava/lang/Object;" (.ref (G.2 12)) A U H ∧ va_T (.object "java/lang/Object") (G.2 12) 0 (fun _ => .null) A U H
def xNs (U : State) : Prop := va_Nw (.fieldLinkNest RX1 54 RX6 "STRENGTH" "[I" RX6) U ∧ va_Nw (.fieldLinkNest RX0 58 RX6 "ROSIN_PARTS" "[I" RX6) U ∧ va_Nw (.methodLinkNest RX6 294 yX2_visit RX6) U ∧ va_Nw (.methodLinkNest RX6 34 yX3_init RX6) U ∧ va_Nw (.methodLinkNest RX6 41 yX2_init RX6) U ∧ va_Nw (.methodLinkNest RX1 57 yX6_yearOf RX6) U ∧ va_Nw (.methodLinkNest RX2 39 yX1_init RX6) U ∧ va_Nw (.methodLinkNest RX2 46 yX3_init RX6) U ∧ va_Nw (.methodLinkNest RX4 51 yX1_init RX6) U ∧ va_Nw (.methodLinkNest RX4 52 yX6_yearOf RX6) U
/-- the class of rows of rows of ints is there -/
def xAA (U : State) : Prop := ∃ (q cA : ClassId) (k : Class), U.vm.findClass (FieldType.array .int).toString = some q ∧ U.vm.classes[cA]? = some k ∧ k.kind = .array q (.array .int) ∧ U.vm.findClass ("[" ++ (FieldType.array .int).toString) = some cA
theorem xAA_to {u U : State} (hvm : u.vm.Alike U.vm) (h : xAA u) : xAA U := by
  obtain ⟨q, cA, k, h1, h2, h3, h4⟩ := h
  obtain ⟨k1, g1, g2⟩ := hvm.2.2 _ _ h2
  exact ⟨q, cA, k1, by rw [hvm.findClass]; exact h1, g1, by rw [g2]; exact h3, by rw [hvm.findClass]; exact h4⟩
theorem xAA_of {ar : Array Value} {U : State} (h : (Cond.arrayOver (.array .int)).before ar U = true) : xAA U := by
  simp only [Cond.before, Cond.holds, Cond.value, beq_iff_eq] at h
  obtain ⟨q, hq, h⟩ := Option.bind_eq_some_iff.mp h
  obtain ⟨cA, hi, h⟩ := Option.bind_eq_some_iff.mp h
  obtain ⟨k, hk, h⟩ := Option.map_eq_some_iff.mp h
  have hp := (Array.findIdx?_eq_some_iff_getElem.mp hi).2.1
  rw [(Array.getElem?_eq_some_iff.mp hk).2] at hp
  revert h hp
  cases hkind : k.kind with
  | array q1 ty =>
    intro h hp
    simp only [beq_iff_eq, Bool.and_eq_true, decide_eq_true_eq] at h hp
    exact ⟨q, cA, k, hq, hk, by rw [hkind, hp, h.1], h.2⟩
  | _ =>
    intro h hp
    simp at h
def xLs (G : XG) (U : State) : Prop := va_Fw RJx4a65c ⟨"java/util/List", "size", "()I"⟩ yJx4a65c_size_8abf5 U ∧ va_Fw RJx4a65c ⟨"java/util/List", "get", "(I)Ljava/lang/Object;"⟩ yJx4a65c_get_915e3 U ∧ va_Fw RJx4a65c ⟨"java/util/List", "add", "(Ljava/lang/Object;)Z"⟩ yJx4a65c_add_9ea2d U ∧ va_AO "java/lang/Object" U ∧ va_AO "ResinWoods$Wood" U ∧ va_Mi "[Ljava/lang/Object;" (G.2 13) U ∧ va_Dc U ∧ va_Nw (.castable RX4 "java/lang/Object") U ∧ va_Nw (.castable RX1 "java/lang/Object") U ∧ va_Nw (.castable RX0 "java/lang/Object") U ∧ xAA U
theorem xCn {C D : String} {u U : State} (hvm : u.vm.Alike U.vm) (h : va_Nw (.castable C D) u) : va_Nw (.castable C D) U := by
  have e := Cond.onTables_vm (A := #[]) (A' := #[]) (U := u) (U' := U) U.vm (Cond.castable C D) rfl
  have hU : U.setVm U.vm = U := rfl
  rw [hU] at e
  unfold va_Nw at h ⊢
  rw [← e, Cond.castable_setVm hvm]
  exact h
def xT (G : XG) (A : Nat → Prop) (U : State) : Prop := xSt G A U U.heap ∧ xNs U ∧ xLs G U
theorem xSt_to {G : XG} {A : Nat → Prop} {u U : State} {H0 H : Heap} {locs : List Loc} (h : xSt G A u H0) (hvm : u.vm.Alike U.vm) (hS : va_S A H0 H locs) : xSt G A U H := by
  obtain ⟨h1, h2, h3, h4, h5, h6⟩ := h
  have hq : ∀ a : Nat, a < H0.size → ¬ A a → H[a]? = H0[a]? := fun a x y => hS.2.1 a x y
  exact ⟨(h1.moved hvm).kept hq, (h2.moved hvm).kept hq, (h3.moved hvm).kept hq, (h4.moved hvm).kept hq, (h5.moved hvm).kept hq, (h6.moved hvm).kept hq⟩
theorem xNs_to {u U : State} (h : xNs u) (hW : u.WarmedH U.vm) : xNs U := by
  obtain ⟨h1, h2, h3, h4, h5, h6, h7, h8, h9, h10⟩ := h
  exact ⟨h1.warmF hW, h2.warmF hW, h3.warmM hW, h4.warmM hW, h5.warmM hW, h6.warmM hW, h7.warmM hW, h8.warmM hW, h9.warmM hW, h10.warmM hW⟩
theorem xNs_same {u U : State} (h : xNs u) (hv : u.vm = U.vm) : xNs U := by
  obtain ⟨h1, h2, h3, h4, h5, h6, h7, h8, h9, h10⟩ := h
  exact ⟨h1.same rfl hv, h2.same rfl hv, h3.same rfl hv, h4.same rfl hv, h5.same rfl hv, h6.same rfl hv, h7.same rfl hv, h8.same rfl hv, h9.same rfl hv, h10.same rfl hv⟩
theorem xLs_to {G : XG} {u U : State} (h : xLs G u) (hvm : u.vm.Alike U.vm) : xLs G U := by
  obtain ⟨h1, h2, h3, h4, h5, h6, h7, h8, h9, h10, h11⟩ := h
  exact ⟨h1.moved (by decide) hvm, h2.moved (by decide) hvm, h3.moved (by decide) hvm, h4.moved hvm, h5.moved hvm, h6.moved hvm, h7.moved hvm, xCn hvm h8, xCn hvm h9, xCn hvm h10, xAA_to hvm h11⟩
def xP (G : XG) (A : Nat → Prop) (w : XW) (U : State) : Prop := xK G U ∧ xH G A U.heap U.heap [] w ∧ xT G A U
def xB (G : XG) (A : Nat → Prop) (w : XW) (t : State) : Prop := xK G t ∧ xM G A w t.heap
theorem xM_set {G : XG} {A : Nat → Prop} {w : XW} {ws : va_W} {H1 : Heap} {k a : Nat} {e0 e1 : va_E} (hD0 : va_D A ws) (hm : ∀ (a : Nat) (e : va_E), (∃ k : Nat, ws[k]? = some (a, e)) ↔ w a = some e) (hk : ws[k]? = some (a, e0))
    (hP : va_P G.1 vwCl (ws.set k (a, e1)) H1) (hD : va_D A (ws.set k (a, e1))) : xM G A (va_up w a (some e1)) H1 := by
  refine ⟨_, hP, hD, fun b x => ?_⟩
  have hl := (List.getElem?_eq_some_iff.mp hk).1
  have hs : (ws.set k (a, e1))[k]? = some (a, e1) := List.getElem?_set_self hl
  by_cases hb : b = a
  · subst hb
    rw [show va_up w b (some e1) b = some e1 from if_pos rfl]
    constructor
    · rintro ⟨j, hj⟩
      have hjk := hD.1 j k (b, x) (b, e1) hj hs rfl
      subst hjk
      rw [hs] at hj
      cases hj
      rfl
    · intro h
      cases h
      exact ⟨k, hs⟩
  · rw [show va_up w a (some e1) b = w b from if_neg hb, ← hm b x]
    constructor
    · rintro ⟨j, hj⟩
      by_cases hjk : j = k
      · subst hjk
        rw [hs] at hj
        cases hj
        exact absurd rfl hb
      · rw [List.getElem?_set_ne (Ne.symm hjk)] at hj
        exact ⟨j, hj⟩
    · rintro ⟨j, hj⟩
      have hjk : j ≠ k := by
        rintro rfl
        rw [hk] at hj
        cases hj
        exact hb rfl
      exact ⟨j, by rw [List.getElem?_set_ne (Ne.symm hjk)]; exact hj⟩
theorem xM_push {G : XG} {A : Nat → Prop} {w : XW} {ws : va_W} {H1 : Heap} {q : Nat} {e1 : va_E} (hm : ∀ (a : Nat) (e : va_E), (∃ k : Nat, ws[k]? = some (a, e)) ↔ w a = some e)
    (hP : va_P G.1 vwCl (ws ++ [(q, e1)]) H1) (hD : va_D A (ws ++ [(q, e1)])) : xM G A (va_up w q (some e1)) H1 ∧ w q = none := by
  have hs : (ws ++ [(q, e1)])[ws.length]? = some (q, e1) := by simp
  have hin : ∀ (j : Nat) (x : Nat × va_E), ws[j]? = some x → (ws ++ [(q, e1)])[j]? = some x := fun j x hj => by
    rw [List.getElem?_append_left (List.getElem?_eq_some_iff.mp hj).1]; exact hj
  have hno : ∀ (j : Nat) (x : va_E), ¬ ws[j]? = some (q, x) := fun j x hj => by
    have := hD.1 j ws.length _ _ (hin j _ hj) hs rfl
    have := (List.getElem?_eq_some_iff.mp hj).1
    omega
  refine ⟨⟨_, hP, hD, fun b x => ?_⟩, ?_⟩
  · by_cases hb : b = q
    · subst hb
      rw [show va_up w b (some e1) b = some e1 from if_pos rfl]
      constructor
      · rintro ⟨j, hj⟩
        have hjk := hD.1 j ws.length (b, x) (b, e1) hj hs rfl
        subst hjk
        rw [hs] at hj
        cases hj
        rfl
      · intro h
        cases h
        exact ⟨_, hs⟩
    · rw [show va_up w q (some e1) b = w b from if_neg hb, ← hm b x]
      constructor
      · rintro ⟨j, hj⟩
        by_cases hl : j < ws.length
        · rw [List.getElem?_append_left hl] at hj
          exact ⟨j, hj⟩
        · rw [List.getElem?_append_right (by omega)] at hj
          have hz : j - ws.length < 1 := (List.getElem?_eq_some_iff.mp hj).1
          rw [show j - ws.length = 0 by omega] at hj
          cases hj
          exact absurd rfl hb
      · rintro ⟨j, hj⟩
        exact ⟨j, hin j _ hj⟩
  · cases hw : w q with
    | none => rfl
    | some x =>
      obtain ⟨j, hj⟩ := (hm q x).mpr hw
      exact absurd hj (hno j x)
/-- fewer cells -/
theorem xM_sub {G : XG} {A : Nat → Prop} {w w' : XW} {H : Heap} (h : xM G A w H) (hs : ∀ a e, w' a = some e → w a = some e) : xM G A w' H := by
  obtain ⟨ws, hP, hD, hm⟩ := h
  have key : ∀ (l : va_W) (n : Nat), (∀ (k : Nat) (q : Nat × va_E), l[k]? = some q → ws[n + k]? = some q) → ∃ ws' : va_W, (∀ q ∈ ws', q ∈ ws) ∧ (∀ (i j : Nat) (p q : Nat × va_E), ws'[i]? = some p → ws'[j]? = some q → p.1 = q.1 → i = j) ∧ ∀ q : Nat × va_E, q ∈ ws' ↔ (q ∈ l ∧ w' q.1 = some q.2) := by
    intro l
    induction l with
    | nil => intro n _; exact ⟨[], fun q h => by simp at h, fun i j p q h => by simp at h, fun q => by simp⟩
    | cons x l ih =>
      intro n hn
      obtain ⟨w2, h1, h2, h3⟩ := ih (n + 1) (fun k q hk => by have := hn (k + 1) q (by simpa using hk); rw [show n + 1 + k = n + (k + 1) by omega]; exact this)
      by_cases hx : w' x.1 = some x.2
      · refine ⟨x :: w2, ?_, ?_, ?_⟩
        · intro q hq
          rcases List.mem_cons.mp hq with rfl | hq
          · exact List.mem_of_getElem? (hn 0 _ rfl)
          · exact h1 q hq
        · have hxn : ∀ (j : Nat) (q : Nat × va_E), w2[j]? = some q → x.1 ≠ q.1 := by
            intro j q hj he
            have hq := (h3 q).mp (List.mem_of_getElem? hj)
            obtain ⟨k, hk⟩ := List.getElem?_of_mem hq.1
            have e := hD.1 (n + 0) (n + (k + 1)) x q (hn 0 _ rfl) (hn (k + 1) q (by simpa using hk)) he
            omega
          intro i j p q hi hj he
          match i, j with
          | 0, 0 => rfl
          | 0, j + 1 =>
            have e0 : x = p := by simpa using hi
            exact absurd (by rw [e0]; exact he) (hxn j q (by simpa using hj))
          | i + 1, 0 =>
            have e0 : x = q := by simpa using hj
            exact absurd (by rw [e0]; exact he.symm) (hxn i p (by simpa using hi))
          | i + 1, j + 1 =>
            have := h2 i j p q (by simpa using hi) (by simpa using hj) he
            omega
        · intro q
          rw [List.mem_cons, List.mem_cons, h3]
          constructor
          · rintro (rfl | ⟨a1, a2⟩)
            · exact ⟨Or.inl rfl, hx⟩
            · exact ⟨Or.inr a1, a2⟩
          · rintro ⟨rfl | a1, a2⟩
            · exact Or.inl rfl
            · exact Or.inr ⟨a1, a2⟩
      · refine ⟨w2, h1, h2, fun q => ?_⟩
        rw [h3, List.mem_cons]
        constructor
        · rintro ⟨a1, a2⟩
          exact ⟨Or.inr a1, a2⟩
        · rintro ⟨rfl | a1, a2⟩
          · exact absurd a2 hx
          · exact ⟨a1, a2⟩
  obtain ⟨ws', h1, h2, h3⟩ := key ws 0 (fun k q h => by rw [Nat.zero_add]; exact h)
  refine ⟨ws', fun k q hk => ?_, ⟨h2, fun k q hk => ?_⟩, fun a e => ?_⟩
  · obtain ⟨j, hj⟩ := List.getElem?_of_mem (h1 q (List.mem_of_getElem? hk))
    exact hP j q hj
  · obtain ⟨j, hj⟩ := List.getElem?_of_mem (h1 q (List.mem_of_getElem? hk))
    exact hD.2 j q hj
  · constructor
    · rintro ⟨k, hk⟩
      exact ((h3 (a, e)).mp (List.mem_of_getElem? hk)).2
    · intro hw
      obtain ⟨j, hj⟩ := (hm a e).mpr (hs a e hw)
      exact List.getElem?_of_mem ((h3 (a, e)).mpr ⟨List.mem_of_getElem? hj, hw⟩)
theorem xH_sub {G : XG} {A : Nat → Prop} {w w' : XW} {H0 H : Heap} {locs : List Loc} (h : xH G A H0 H locs w) (hs : ∀ a e, w' a = some e → w a = some e) : xH G A H0 H locs w' := ⟨h.1, h.2.1, xM_sub h.2.2 hs⟩
theorem xH_of {G : XG} {A : Nat → Prop} {H0 H : Heap} {locs : List Loc} {w w' : XW} (h : xH G A H0 H locs w) (e : w = w') : xH G A H0 H locs w' := e ▸ h
section XR
variable {p : Program} {l : Launch} {e : Env} {R : Room} {s : State} {m : MethodId} {args : Array Value} {below : List Frame} {meth : Method} {c : Code} {H : Heap} {locs : List Loc} {cells slots : Nat} {Q : State → Prop}
variable {cc : ByteArray} {pc : Nat} {ls : Array Slot} {rest : List Value} {G : XG} {A : Nat → Prop} {a : Nat} {w : XW} {H0 : Heap}
theorem x_get (hexec : p.tables.exec = Jvm.exec) (hb : c.code = cc) {own ref C : String} {T : u_T} {N ci index : Nat} {Ts : List Cond} (hts : ∀ w ∈ Ts, w.before args s = true) (hin : ∀ w ∈ u_ws C T N, w ∈ Ts) (hown : s.vm.findClass own = some m.cls) (hK : xK G s) (hH : xH G A H0 H locs w) {fs : List Value} (he : w a = some (.inr (ci, fs))) (hc : vwCl[ci]? = some (C, T, N)) (k : Nat) (hk : k < N) (hlink : (Cond.fieldLink own index ref (T k).2.1 (T k).2.2.1).before args s = true) (hsame : ∀ x, s.fieldFound? (T k).1 (T k).2.1 (T k).2.2.1 = some x → s.fieldFound? ref (T k).2.1 (T k).2.2.1 = some x) {v : Value} (hv : fs[k]? = some v) (hdg : decode cc pc = .ok (.getfield index, 3))
    (kk : W p l e R s m args below meth c H locs cells slots Q (F0 m (pc + 3) ls (v :: rest))) : W p l e R s m args below meth c H locs cells slots Q (F0 m pc ls (.ref a :: rest)) := by
  obtain ⟨hA, hS, ws, hP, hD, hm⟩ := hH
  obtain ⟨q0, hq⟩ := (hm _ _).mpr he
  exact va_get hexec hb hts hin hown hK hP q0 hq hc k hk hlink hsame hv hdg kk
theorem x_put (hexec : p.tables.exec = Jvm.exec) (hb : c.code = cc) {own ref C : String} {T : u_T} {N ci index : Nat} {Ts : List Cond} (hts : ∀ w ∈ Ts, w.before args s = true) (hin : ∀ w ∈ u_ws C T N, w ∈ Ts) (ty0 : Nat → FieldType) (hty : ∀ k, k < N → parseFieldDescriptor (T k).2.2.1 = some (ty0 k)) (hnm : ∀ a, a < N → ∀ b, b < N → a ≠ b → (T a).2.1 ≠ (T b).2.1) (hown : s.vm.findClass own = some m.cls) (hK : xK G s) (hH : xH G A H0 H locs w) {fs : List Value} (he : w a = some (.inr (ci, fs))) (hc : vwCl[ci]? = some (C, T, N)) (k : Nat) (hk : k < N) (hlink : (Cond.fieldLink own index ref (T k).2.1 (T k).2.2.1).before args s = true) (hsame : ∀ x, s.fieldFound? (T k).1 (T k).2.1 (T k).2.2.1 = some x → s.fieldFound? ref (T k).2.1 (T k).2.2.1 = some x) (hfin : (T k).2.2.2 = false) {ty : FieldType} {v : Value} (hd : parseFieldDescriptor (T k).2.2.1 = some ty) (hn : narrow ty v = v) (hfit : fits ty v = true) (hl : k < fs.length)
    (hdg : decode cc pc = .ok (.putfield index, 3)) (kk : ∀ (H1 : Heap) (locs1 : List Loc), xH G A H0 H1 locs1 (va_up w a (some (.inr (ci, fs.set k v)))) → W p l e R s m args below meth c H1 locs1 cells slots Q (F0 m (pc + 3) ls rest)) : W p l e R s m args below meth c H locs cells slots Q (F0 m pc ls (v :: .ref a :: rest)) := by
  obtain ⟨hA, hS, ws, hP, hD, hm⟩ := hH
  obtain ⟨q0, hq⟩ := (hm _ _).mpr he
  exact va_put hexec hb hts hin ty0 hty hnm hown hK hP hD hS q0 hq hc k hk hlink hsame hfin hd hn hfit hl hdg (fun H1 locs1 hP1 hD1 hS1 => kk H1 locs1 ⟨hA, hS1, xM_set hD hm hq hP1 hD1⟩)
theorem x_putF (hexec : p.tables.exec = Jvm.exec) (hb : c.code = cc) {own ref C : String} {T : u_T} {N ci index : Nat} {Ts : List Cond} (hts : ∀ w ∈ Ts, w.before args s = true) (hin : ∀ w ∈ u_ws C T N, w ∈ Ts) (ty0 : Nat → FieldType) (hty : ∀ k, k < N → parseFieldDescriptor (T k).2.2.1 = some (ty0 k)) (hnm : ∀ a, a < N → ∀ b, b < N → a ≠ b → (T a).2.1 ≠ (T b).2.1) (hown : s.vm.findClass own = some m.cls) (hK : xK G s) (hH : xH G A H0 H locs w) {fs : List Value} (he : w a = some (.inr (ci, fs))) (hc : vwCl[ci]? = some (C, T, N)) (k : Nat) (hk : k < N) (hlink : (Cond.fieldLink own index ref (T k).2.1 (T k).2.2.1).before args s = true) (hsame : ∀ x, s.fieldFound? (T k).1 (T k).2.1 (T k).2.2.1 = some x → s.fieldFound? ref (T k).2.1 (T k).2.2.1 = some x) (hfin : (T k).2.2.2 = true) (hin2 : meth.name = "<init>") (hdecl : (T k).1 = own) {ty : FieldType} {v : Value} (hd : parseFieldDescriptor (T k).2.2.1 = some ty) (hn : narrow ty v = v) (hfit : fits ty v = true) (hl : k < fs.length)
    (hdg : decode cc pc = .ok (.putfield index, 3)) (kk : ∀ (H1 : Heap) (locs1 : List Loc), xH G A H0 H1 locs1 (va_up w a (some (.inr (ci, fs.set k v)))) → W p l e R s m args below meth c H1 locs1 cells slots Q (F0 m (pc + 3) ls rest)) : W p l e R s m args below meth c H locs cells slots Q (F0 m pc ls (v :: .ref a :: rest)) := by
  obtain ⟨hA, hS, ws, hP, hD, hm⟩ := hH
  obtain ⟨q0, hq⟩ := (hm _ _).mpr he
  exact va_putF hexec hb hts hin ty0 hty hnm hown hK hP hD hS q0 hq hc k hk hlink hsame hfin hin2 hdecl hd hn hfit hl hdg (fun H1 locs1 hP1 hD1 hS1 => kk H1 locs1 ⟨hA, hS1, xM_set hD hm hq hP1 hD1⟩)
theorem x_iald (hexec : p.tables.exec = Jvm.exec) (hb : c.code = cc) (hK : xK G s) (hH : xH G A H0 H locs w) {n : Nat} {f : Nat → Int32} (ha : w a = some (.inl (G.2 0, n, .inl f))) {i : Int32} (hin : vp_in i n) (hdg : decode cc pc = .ok (.iaload, 1))
    (kk : W p l e R s m args below meth c H locs cells slots Q (F0 m (pc + 1) ls (.int (f i.toNatClampNeg) :: rest))) : W p l e R s m args below meth c H locs cells slots Q (F0 m pc ls (.int i :: .ref a :: rest)) := by
  obtain ⟨hA, hS, ws, hP, hD, hm⟩ := hH
  obtain ⟨q0, hq⟩ := (hm _ _).mpr ha
  exact va_iald hexec hb hK hP q0 0 hq rfl hin hdg kk
theorem x_zald (hexec : p.tables.exec = Jvm.exec) (hb : c.code = cc) (hK : xK G s) (hH : xH G A H0 H locs w) {n : Nat} {f : Nat → Int32} (ha : w a = some (.inl (G.2 1, n, .inl f))) {i : Int32} (hin : vp_in i n) (hdg : decode cc pc = .ok (.baload, 1))
    (kk : W p l e R s m args below meth c H locs cells slots Q (F0 m (pc + 1) ls (.int (f i.toNatClampNeg) :: rest))) : W p l e R s m args below meth c H locs cells slots Q (F0 m pc ls (.int i :: .ref a :: rest)) := by
  obtain ⟨hA, hS, ws, hP, hD, hm⟩ := hH
  obtain ⟨q0, hq⟩ := (hm _ _).mpr ha
  exact va_zald hexec hb hK hP q0 1 hq rfl hin hdg kk
theorem x_bald (hexec : p.tables.exec = Jvm.exec) (hb : c.code = cc) (hK : xK G s) (hH : xH G A H0 H locs w) {n : Nat} {f : Nat → Int32} (ha : w a = some (.inl (G.2 2, n, .inl f))) {i : Int32} (hin : vp_in i n) (hdg : decode cc pc = .ok (.baload, 1))
    (kk : W p l e R s m args below meth c H locs cells slots Q (F0 m (pc + 1) ls (.int (f i.toNatClampNeg) :: rest))) : W p l e R s m args below meth c H locs cells slots Q (F0 m pc ls (.int i :: .ref a :: rest)) := by
  obtain ⟨hA, hS, ws, hP, hD, hm⟩ := hH
  obtain ⟨q0, hq⟩ := (hm _ _).mpr ha
  exact va_bald hexec hb hK hP q0 2 hq rfl hin hdg kk
theorem x_iast (hexec : p.tables.exec = Jvm.exec) (hb : c.code = cc) (hK : xK G s) (hH : xH G A H0 H locs w) {n : Nat} {f : Nat → Int32} (ha : w a = some (.inl (G.2 0, n, .inl f))) {i x : Int32} (hin : vp_in i n) (hdg : decode cc pc = .ok (.iastore, 1))
    (kk : ∀ (H1 : Heap) (locs1 : List Loc), xH G A H0 H1 locs1 (va_up w a (some (.inl (G.2 0, n, .inl (upd f i.toNatClampNeg x))))) → W p l e R s m args below meth c H1 locs1 cells slots Q (F0 m (pc + 1) ls rest)) : W p l e R s m args below meth c H locs cells slots Q (F0 m pc ls (.int x :: .int i :: .ref a :: rest)) := by
  obtain ⟨hA, hS, ws, hP, hD, hm⟩ := hH
  obtain ⟨q0, hq⟩ := (hm _ _).mpr ha
  exact va_iast hexec hb hK hP hD hS q0 0 hq rfl hin hdg (fun H1 locs1 hP1 hD1 hS1 => kk H1 locs1 ⟨hA, hS1, xM_set hD hm hq hP1 hD1⟩)
theorem x_zast (hexec : p.tables.exec = Jvm.exec) (hb : c.code = cc) (hK : xK G s) (hH : xH G A H0 H locs w) {n : Nat} {f : Nat → Int32} (ha : w a = some (.inl (G.2 1, n, .inl f))) {i x : Int32} (hin : vp_in i n) (hdg : decode cc pc = .ok (.bastore, 1))
    (kk : ∀ (H1 : Heap) (locs1 : List Loc), xH G A H0 H1 locs1 (va_up w a (some (.inl (G.2 1, n, .inl (upd f i.toNatClampNeg (vp_nar .boolean x)))))) → W p l e R s m args below meth c H1 locs1 cells slots Q (F0 m (pc + 1) ls rest)) : W p l e R s m args below meth c H locs cells slots Q (F0 m pc ls (.int x :: .int i :: .ref a :: rest)) := by
  obtain ⟨hA, hS, ws, hP, hD, hm⟩ := hH
  obtain ⟨q0, hq⟩ := (hm _ _).mpr ha
  exact va_zast hexec hb hK hP hD hS q0 1 hq rfl hin hdg (fun H1 locs1 hP1 hD1 hS1 => kk H1 locs1 ⟨hA, hS1, xM_set hD hm hq hP1 hD1⟩)
theorem x_bast (hexec : p.tables.exec = Jvm.exec) (hb : c.code = cc) (hK : xK G s) (hH : xH G A H0 H locs w) {n : Nat} {f : Nat → Int32} (ha : w a = some (.inl (G.2 2, n, .inl f))) {i x : Int32} (hin : vp_in i n) (hdg : decode cc pc = .ok (.bastore, 1))
    (kk : ∀ (H1 : Heap) (locs1 : List Loc), xH G A H0 H1 locs1 (va_up w a (some (.inl (G.2 2, n, .inl (upd f i.toNatClampNeg (vp_nar .byte x)))))) → W p l e R s m args below meth c H1 locs1 cells slots Q (F0 m (pc + 1) ls rest)) : W p l e R s m args below meth c H locs cells slots Q (F0 m pc ls (.int x :: .int i :: .ref a :: rest)) := by
  obtain ⟨hA, hS, ws, hP, hD, hm⟩ := hH
  obtain ⟨q0, hq⟩ := (hm _ _).mpr ha
  exact va_bast hexec hb hK hP hD hS q0 2 hq rfl hin hdg (fun H1 locs1 hP1 hD1 hS1 => kk H1 locs1 ⟨hA, hS1, xM_set hD hm hq hP1 hD1⟩)
theorem x_alen (hexec : p.tables.exec = Jvm.exec) (hb : c.code = cc) (hK : xK G s) (hH : xH G A H0 H locs w) (t0 : Nat) {cA : ClassId} {x : vp_A} (ha : w a = some (.inl (cA, x))) {ty : FieldType} (ht : (xt G)[t0]? = some (cA, ty)) {v : Int32} (hv : Int32.ofNat x.1 = v) (hdg : decode cc pc = .ok (.arraylength, 1))
    (kk : W p l e R s m args below meth c H locs cells slots Q (F0 m (pc + 1) ls (.int v :: rest))) : W p l e R s m args below meth c H locs cells slots Q (F0 m pc ls (.ref a :: rest)) := by
  obtain ⟨hA, hS, ws, hP, hD, hm⟩ := hH
  obtain ⟨q0, hq⟩ := (hm _ _).mpr ha
  exact va_alen hexec hb hK hP q0 t0 hq ht hv hdg kk
theorem x_new (hexec : p.tables.exec = Jvm.exec) (hb : c.code = cc) {own C : String} {T : u_T} {N ci index : Nat} {Ts : List Cond} (hts : ∀ w ∈ Ts, w.before args s = true) (hin : ∀ w ∈ u_ws C T N, w ∈ Ts) (ty : Nat → FieldType) (hty : ∀ k, k < N → parseFieldDescriptor (T k).2.2.1 = some (ty k)) (hown : s.vm.findClass own = some m.cls) (hcl : (Cond.classLink own index C).before args s = true) (hinst : (Cond.instantiable C N).before args s = true) (hini : (Cond.initialized C).before args s = true)
    (hK : xK G s) (hH : xH G A H0 H locs w) (hc : vwCl[ci]? = some (C, T, N)) {fs : List Value} (hfs : ∀ j, j < N → defaultValue (ty j) = vp_V fs j) (hcells : cells + 1 ≤ R.cells) (hslots : slots + N ≤ R.slots) (hdg : decode cc pc = .ok (.new index, 3))
    (kk : ∀ (q : Nat) (H1 : Heap), w q = none → xH G A H0 H1 locs (va_up w q (some (.inr (ci, fs)))) →
      W p l e R s m args below meth c H1 locs (cells + 1) (slots + N) Q (F0 m (pc + 3) ls (.ref q :: rest))) : W p l e R s m args below meth c H locs cells slots Q (F0 m pc ls rest) := by
  obtain ⟨hA, hS, ws, hP, hD, hm⟩ := hH
  exact va_new hexec hb hts hin ty hty hown hcl hinst hini hK hP hD hS hA hc hfs hcells hslots hdg (fun q H1 hP1 hD1 hS1 => kk q H1 (xM_push hm hP1 hD1).2 ⟨hA, hS1, (xM_push hm hP1 hD1).1⟩)
theorem x_newa (hexec : p.tables.exec = Jvm.exec) (hb : c.code = cc) {atype : ArrayType} (harr : (Cond.arrayClass (newarray.typeOf atype)).before args s = true) {ty : FieldType} (hty : newarray.typeOf atype = ty) (t0 : Nat) {cA : ClassId} (ht : (xt G)[t0]? = some (cA, ty)) (hpr : ∀ C : String, ty ≠ .object C) (hK : xK G s) (hH : xH G A H0 H locs w)
    {n : Int32} {N' : Nat} {a0 : vp_A} (ha : ∀ cA : ClassId, vp_cell cA a0 = arrV cA N' (fun _ => defaultValue ty)) (hn : ¬ n < 0) (hN : n.toNatClampNeg = N') (hbytes : N' * componentBytes ty ≤ 536870912) (hcells : cells + 1 ≤ R.cells) (hslots : slots + N' ≤ R.slots) (hdg : decode cc pc = .ok (.newarray atype, 2))
    (kk : ∀ (q : Nat) (H1 : Heap), w q = none → xH G A H0 H1 locs (va_up w q (some (.inl (cA, a0)))) →
      W p l e R s m args below meth c H1 locs (cells + 1) (slots + N') Q (F0 m (pc + 2) ls (.ref q :: rest))) : W p l e R s m args below meth c H locs cells slots Q (F0 m pc ls (.int n :: rest)) := by
  obtain ⟨hA, hS, ws, hP, hD, hm⟩ := hH
  refine va_newa hexec hb harr hty hK hP hD hS hA ha hn hN hbytes hcells hslots hdg (fun q cB H1 hK1 hP1 hD1 hS1 => ?_)
  have e1 := (hK1.2 (xt G).length (cB, ty) (by simp)).2
  have e2 := (hK.2 t0 (cA, ty) ht).2
  have e : cB = cA := by
    cases ty with
    | object C => exact absurd rfl (hpr C)
    | _ => exact Option.some.inj (Eq.trans (Eq.symm e1) e2)
  subst e
  exact kk q H1 (xM_push hm hP1 hD1).2 ⟨hA, hS1, (xM_push hm hP1 hD1).1⟩
/-- before a call -/
theorem x_blind {av : List Value} : FrameBlind (va_Pc av (xP G A w)) := fun a U g mk q => by
  obtain ⟨q0, qK, qH, qS, qN, qL⟩ := q
  exact ⟨q0, va_K.moved (u := U) (U := U.calling g mk a) (Vm.Alike.refl U.vm) qK, qH, xSt_to (U := U.calling g mk a) qS (Vm.Alike.refl U.vm) va_S.rf, xNs_same (U := U.calling g mk a) qN rfl, xLs_to (U := U.calling g mk a) qL (Vm.Alike.refl U.vm)⟩
theorem x_at (hK : xK G s) (hH : xH G A s.heap H locs w) (hT : xT G A s) {U : State} (hU : U.heap = H) (hW : s.WarmedH U.vm) : xP G A w U := by
  refine ⟨va_K.moved hW.alike hK, ?_, ?_, xNs_to hT.2.1 hW, xLs_to hT.2.2 hW.alike⟩
  · obtain ⟨hA, hS, hM⟩ := hH
    rw [hU]
    exact ⟨fun q h => hA q (Nat.le_trans hS.1 h), va_S.rf, hM⟩
  · rw [hU]
    exact xSt_to hT.1 hW.alike hH.2.1
theorem x_preV (hK : xK G s) (hH : xH G A s.heap H locs w) (hT : xT G A s) {C : String} {T : u_T} {N ci b : Nat} {fs : List Value} (he : w b = some (.inr (ci, fs))) (hc : vwCl[ci]? = some (C, T, N)) (As : List Value) : PreV s H C b (va_Pc (.ref b :: As) (xP G A w)) As := by
  refine ⟨x_blind, ?_, fun U hU hW => ⟨rfl, x_at hK hH hT hU hW⟩⟩
  obtain ⟨hA, hS, ws, hP, hD, hm⟩ := hH
  obtain ⟨q0, hq⟩ := (hm _ _).mpr he
  exact va_recv hK hP hc hq
theorem x_preS (hK : xK G s) (hH : xH G A s.heap H locs w) (hT : xT G A s) (As : List Value) : PreS s H (va_Pc As (xP G A w)) As := ⟨x_blind, fun U hU hW => ⟨rfl, x_at hK hH hT hU hW⟩⟩
/-- behind a call -/
theorem x_calli {st0 : List Value} {av : Array Value} {mc ms : Nat} {S : Type} {post : Int32 → S → Prop} {f : S → XW} (hr : va_Run p l e R s m args below meth c H locs cells slots mc ms (F0 m pc ls st0) rest (va_Qi post (fun u t => xB G A (f u) t) A av) A) (hH : xH G A H0 H locs w)
    (kk : ∀ (r : Int32) (u : S) (H1 : Heap) (locs1 : List Loc), post r u → xH G A H0 H1 locs1 (f u) → W p l e R s m args below meth c H1 locs1 (cells + mc) (slots + ms) Q (F0 m (pc + 3) ls (.int r :: rest))) : W p l e R s m args below meth c H locs cells slots Q (F0 m pc ls st0) :=
  va_calli hr hH.2.1 (fun _ _ h => h) (fun _ h => h) (fun r u t H1 locs1 ht _ hp hB _ _ hS => kk r u H1 locs1 hp ⟨hH.1, hS, ht ▸ hB.2⟩)
theorem x_callv {st0 : List Value} {av : Array Value} {mc ms : Nat} {S : Type} {post : S → Prop} {f : S → XW} (hr : va_Run p l e R s m args below meth c H locs cells slots mc ms (F0 m pc ls st0) rest (va_Qv post (fun u t => xB G A (f u) t) A av) A) (hH : xH G A H0 H locs w)
    (kk : ∀ (u : S) (H1 : Heap) (locs1 : List Loc), post u → xH G A H0 H1 locs1 (f u) → W p l e R s m args below meth c H1 locs1 (cells + mc) (slots + ms) Q (F0 m (pc + 3) ls rest)) : W p l e R s m args below meth c H locs cells slots Q (F0 m pc ls st0) :=
  va_callv hr hH.2.1 (fun _ _ h => h) (fun _ h => h) (fun u t H1 locs1 ht _ hp hB _ _ hS => kk u H1 locs1 hp ⟨hH.1, hS, ht ▸ hB.2⟩)
/-- the end -/
theorem x_iret {S : Type} {post : Int32 → S → Prop} {f : S → XW} {v : Int32} (u : S) (hexec : p.tables.exec = Jvm.exec) (hb : c.code = cc) (hr : meth.sig.returnType = some .int) (hlocks : meth.locks = false) (hK : xK G s) (hH : xH G A s.heap H locs (f u)) (hp : post v u) (hdg : decode cc pc = .ok (.ireturn, 1)) :
    W p l e R s m args below meth c H locs cells slots (MQ below (va_Qi post (fun u t => xB G A (f u) t) A) args s cells slots A) (F0 m pc ls [.int v]) :=
  W.iret hexec hb hr (fun t ht hW => ⟨⟨v, u, rfl, hp, va_K.moved hW.alike hK, by rw [ht]; exact hH.2.2⟩, hH.2.1.F ht⟩) hH.2.1.2.2 hdg
theorem x_zret {S : Type} {post : Int32 → S → Prop} {f : S → XW} {v : Int32} {ty : FieldType} (u : S) (hexec : p.tables.exec = Jvm.exec) (hb : c.code = cc) (hr : meth.sig.returnType = some ty) (hlocks : meth.locks = false) (hn : narrow ty (.int v) = .int v) (hK : xK G s) (hH : xH G A s.heap H locs (f u)) (hp : post v u) (hdg : decode cc pc = .ok (.ireturn, 1)) :
    W p l e R s m args below meth c H locs cells slots (MQ below (va_Qi post (fun u t => xB G A (f u) t) A) args s cells slots A) (F0 m pc ls [.int v]) :=
  W.zret hexec hb hr hn (fun t ht hW => ⟨⟨v, u, rfl, hp, va_K.moved hW.alike hK, by rw [ht]; exact hH.2.2⟩, hH.2.1.F ht⟩) hH.2.1.2.2 hdg
theorem x_vret {S : Type} {post : S → Prop} {f : S → XW} (u : S) (hexec : p.tables.exec = Jvm.exec) (hb : c.code = cc) (hr : meth.sig.returnType = none) (hlocks : meth.locks = false) (hK : xK G s) (hH : xH G A s.heap H locs (f u)) (hp : post u) (hdg : decode cc pc = .ok (.return_, 1)) :
    W p l e R s m args below meth c H locs cells slots (MQ below (va_Qv post (fun u t => xB G A (f u) t) A) args s cells slots A) (F0 m pc ls []) :=
  W.vret hexec hb hr (fun t ht hW => ⟨⟨u, rfl, hp, va_K.moved hW.alike hK, by rw [ht]; exact hH.2.2⟩, hH.2.1.F ht⟩) hH.2.1.2.2 hdg
end XR
