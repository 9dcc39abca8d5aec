section
/-! ===== BEGIN words of one list among another's, by their places ===== -/
theorem goodIn_r {big : List Cond} (ws : List Cond) (ps : List Nat) (hp : ws = ps.filterMap (fun i => big[i]?)) (h : ws.all goodWord = true) : GoodIn big ws := by
  intro w hw
  have h1 := List.all_eq_true.mp h w hw
  rw [hp] at hw
  obtain ⟨i, -, hi⟩ := List.mem_filterMap.mp hw
  have hm : w ∈ big := by first | exact List.mem_of_getElem? hi | exact List.getElem?_mem hi
  exact ⟨hm, good_of_word h1⟩
theorem goodIn_app {big a b : List Cond} (ha : GoodIn big a) (hb : GoodIn big b) : GoodIn big (a ++ b) := fun w h => (List.mem_append.mp h).elim (ha w) (hb w)
theorem goodIn_ca {big a b : List Cond} {c : Cond} (ha : GoodIn big (c :: a)) (hb : GoodIn big b) : GoodIn big (c :: (a ++ b)) := fun w h => (List.mem_cons.mp h).elim (fun e => ha w (List.mem_cons.mpr (Or.inl e))) (fun h => (List.mem_append.mp h).elim (fun h => ha w (List.mem_cons.mpr (Or.inr h))) (hb w))
theorem goodIn_sub {big ws : List Cond} (hm : ∀ w ∈ ws, w ∈ big) (h : ws.all goodWord = true) : GoodIn big ws := fun w hw => ⟨hm w hw, good_of_word (List.all_eq_true.mp h w hw)⟩
/-! ===== END ===== -/

/-! ===== BEGIN new T[n][m]: the outer array a place, the inner ones among the pooled ===== -/
/-- f, but v at every address of l -/
def vr_up {α : Type} (f : Nat → α) (l : List Nat) (v : α) : Nat → α := fun a => if a ∈ l then v else f a
theorem vr_up_in {α : Type} {f : Nat → α} {l : List Nat} {v : α} {a : Nat} (h : a ∈ l) : vr_up f l v a = v := if_pos h
theorem vr_up_ne {α : Type} {f : Nat → α} {l : List Nat} {v : α} {a : Nat} (h : a ∉ l) : vr_up f l v a = f a := if_neg h
theorem vr_rows {L l : List Nat} {f : Nat → va_E} {e : va_E} (h : ∀ a, a ∈ l → a ∉ L) : va_pl L f ++ l.map (fun a => (a, e)) = va_pl (L ++ l) (vr_up f l e) := by
  unfold va_pl
  rw [List.map_append]
  congr 1
  · apply List.map_congr_left
    intro a ha
    rw [vr_up_ne (fun q => h a q ha)]
  · apply List.map_congr_left
    intro a ha
    rw [vr_up_in ha]
theorem vr_lay {X rows : va_W} {x : Nat × va_E} {pl : va_W} {D : va_G} {cl : List vw_C} {H : Heap} (hP : va_P D cl (((X ++ pl) ++ [x]) ++ rows) H) : va_P D cl ((X ++ [x]) ++ (pl ++ rows)) H := by
  rw [List.append_assoc (X ++ pl)] at hP
  have h := va_P.swap hP
  rw [← List.append_assoc X] at h
  have h2 := va_P.swap h
  rw [List.append_assoc (X ++ [x])] at h2
  exact h2
theorem vr_layD {X rows : va_W} {x : Nat × va_E} {pl : va_W} {A : Nat → Prop} (hD : va_D A (((X ++ pl) ++ [x]) ++ rows)) : va_D A ((X ++ [x]) ++ (pl ++ rows)) := by
  rw [List.append_assoc (X ++ pl)] at hD
  have h := va_D.swap hD
  rw [← List.append_assoc X] at h
  have h2 := va_D.swap h
  rw [List.append_assoc (X ++ [x])] at h2
  exact h2
/-! ===== END ===== -/

/-! ===== BEGIN printed: names, fields, word lists, decode rows ===== -/
def RX0 : String := "ResinWoods$Barrel"
def TX0 : u_T := fun k => match k with
  | 0 => ("ResinWoods$Barrel", "wood", "LResinWoods$Wood;", true)
  | 1 => ("ResinWoods$Barrel", "has", "I", false)
  | 2 => ("ResinWoods$Barrel", "ofGrade", "[I", true)
  | 3 => ("ResinWoods$Barrel", "ofTree", "[I", true)
  | 4 => ("ResinWoods$Barrel", "isStilled", "Z", false)
  | _ => ("ResinWoods$Barrel", "isPaid", "Z", false)
def tyX0 : Nat → FieldType := fun k => match k with
  | 0 => .object "ResinWoods$Wood"
  | 1 => .int
  | 2 => .array .int
  | 3 => .array .int
  | 4 => .boolean
  | _ => .boolean
abbrev wsX00 : List Cond := u_ws RX0 TX0 6
theorem nmX0 : ∀ a, a < 6 → ∀ b, b < 6 → a ≠ b → (TX0 a).2.1 ≠ (TX0 b).2.1 := by decide +kernel
theorem tyX0_ok : ∀ k, k < 6 → parseFieldDescriptor (TX0 k).2.2.1 = some (tyX0 k) := by decide +kernel
abbrev cX0_init : ByteArray := prog_2_method_1_code
def yX0_init : MethodName := ⟨RX0, "<init>", "(LResinWoods$Wood;)V"⟩
abbrev cX0_tell : ByteArray := prog_2_method_2_code
def yX0_tell : MethodName := ⟨RX0, "tell", "(I)I"⟩
abbrev cX0_isGone : ByteArray := prog_2_method_3_code
def yX0_isGone : MethodName := ⟨RX0, "isGone", "()Z"⟩
abbrev cX0_isFull : ByteArray := prog_2_method_4_code
def yX0_isFull : MethodName := ⟨RX0, "isFull", "()Z"⟩
abbrev cX0_room : ByteArray := prog_2_method_5_code
def yX0_room : MethodName := ⟨RX0, "room", "()I"⟩
abbrev cX0_fill : ByteArray := prog_2_method_6_code
def yX0_fill : MethodName := ⟨RX0, "fill", "(III)I"⟩
abbrev cX0_gradeOf : ByteArray := prog_2_method_7_code
def yX0_gradeOf : MethodName := ⟨RX0, "gradeOf", "()I"⟩
abbrev cX0_spiritOf : ByteArray := prog_2_method_8_code
def yX0_spiritOf : MethodName := ⟨RX0, "spiritOf", "()I"⟩
abbrev cX0_rosinOf : ByteArray := prog_2_method_9_code
def yX0_rosinOf : MethodName := ⟨RX0, "rosinOf", "()I"⟩
def RX1 : String := "ResinWoods$Face"
def TX1 : u_T := fun k => match k with
  | 0 => ("ResinWoods$Face", "streaks", "I", false)
  | 1 => ("ResinWoods$Face", "latest", "I", false)
  | 2 => ("ResinWoods$Face", "openedIn", "I", false)
  | 3 => ("ResinWoods$Face", "has", "I", false)
  | 4 => ("ResinWoods$Face", "ranOver", "I", false)
  | _ => ("ResinWoods$Face", "ofGrade", "[I", true)
def tyX1 : Nat → FieldType := fun k => match k with
  | 0 => .int
  | 1 => .int
  | 2 => .int
  | 3 => .int
  | 4 => .int
  | _ => .array .int
abbrev wsX10 : List Cond := u_ws RX1 TX1 6
theorem nmX1 : ∀ a, a < 6 → ∀ b, b < 6 → a ≠ b → (TX1 a).2.1 ≠ (TX1 b).2.1 := by decide +kernel
theorem tyX1_ok : ∀ k, k < 6 → parseFieldDescriptor (TX1 k).2.2.1 = some (tyX1 k) := by decide +kernel
abbrev cX1_init : ByteArray := prog_3_method_1_code
def yX1_init : MethodName := ⟨RX1, "<init>", "()V"⟩
abbrev cX1_tell : ByteArray := prog_3_method_2_code
def yX1_tell : MethodName := ⟨RX1, "tell", "(I)I"⟩
abbrev cX1_mayBeCutOn : ByteArray := prog_3_method_3_code
def yX1_mayBeCutOn : MethodName := ⟨RX1, "mayBeCutOn", "(I)Z"⟩
abbrev cX1_endDay : ByteArray := prog_3_method_4_code
def yX1_endDay : MethodName := ⟨RX1, "endDay", "(IIILResinWoods$Tally;)V"⟩
abbrev cX1_strengthOn : ByteArray := prog_3_method_5_code
def yX1_strengthOn : MethodName := ⟨RX1, "strengthOn", "(I)I"⟩
abbrev cX1_gradeOn : ByteArray := prog_3_method_6_code
def yX1_gradeOn : MethodName := ⟨RX1, "gradeOn", "(I)I"⟩
abbrev cX1_catchInCup : ByteArray := prog_3_method_7_code
def yX1_catchInCup : MethodName := ⟨RX1, "catchInCup", "(II)I"⟩
abbrev cX1_washBy : ByteArray := prog_3_method_8_code
def yX1_washBy : MethodName := ⟨RX1, "washBy", "(I)I"⟩
abbrev cX1_clearCup : ByteArray := prog_3_method_9_code
def yX1_clearCup : MethodName := ⟨RX1, "clearCup", "()V"⟩
abbrev cX1_standInFor : ByteArray := prog_3_method_10_code
def yX1_standInFor : MethodName := ⟨RX1, "standInFor", "(LResinWoods$Face;)V"⟩
def RX2 : String := "ResinWoods$Planner"
def TX2 : u_T := fun k => match k with
  | 0 => ("ResinWoods$Planner", "size", "I", false)
  | 1 => ("ResinWoods$Planner", "numbers", "[I", true)
  | 2 => ("ResinWoods$Planner", "places", "[I", true)
  | 3 => ("ResinWoods$Planner", "spills", "[[I", true)
  | 4 => ("ResinWoods$Planner", "order", "[I", true)
  | 5 => ("ResinWoods$Planner", "best", "[I", true)
  | 6 => ("ResinWoods$Planner", "isVisited", "[Z", true)
  | 7 => ("ResinWoods$Planner", "cup", "LResinWoods$Face;", true)
  | 8 => ("ResinWoods$Planner", "unread", "LResinWoods$Tally;", true)
  | 9 => ("ResinWoods$Planner", "hasBest", "Z", false)
  | 10 => ("ResinWoods$Planner", "bestOver", "I", false)
  | _ => ("ResinWoods$Planner", "bestSteps", "I", false)
def tyX2 : Nat → FieldType := fun k => match k with
  | 0 => .int
  | 1 => .array .int
  | 2 => .array .int
  | 3 => .array (.array .int)
  | 4 => .array .int
  | 5 => .array .int
  | 6 => .array .boolean
  | 7 => .object "ResinWoods$Face"
  | 8 => .object "ResinWoods$Tally"
  | 9 => .boolean
  | 10 => .int
  | _ => .int
abbrev wsX20 : List Cond := u_ws RX2 TX2 12
theorem nmX2 : ∀ a, a < 12 → ∀ b, b < 12 → a ≠ b → (TX2 a).2.1 ≠ (TX2 b).2.1 := by decide +kernel
theorem tyX2_ok : ∀ k, k < 12 → parseFieldDescriptor (TX2 k).2.2.1 = some (tyX2 k) := by decide +kernel
abbrev cX2_init : ByteArray := prog_4_method_1_code
def yX2_init : MethodName := ⟨RX2, "<init>", "()V"⟩
abbrev cX2_begin : ByteArray := prog_4_method_2_code
def yX2_begin : MethodName := ⟨RX2, "begin", "()V"⟩
abbrev cX2_join : ByteArray := prog_4_method_3_code
def yX2_join : MethodName := ⟨RX2, "join", "(LResinWoods$Tree;)I"⟩
abbrev cX2_visit : ByteArray := prog_4_method_4_code
def yX2_visit : MethodName := ⟨RX2, "visit", "(LResinWoods$Planner;IIII)V"⟩
abbrev cX2_stepsBetween : ByteArray := prog_4_method_5_code
def yX2_stepsBetween : MethodName := ⟨RX2, "stepsBetween", "(II)I"⟩
abbrev cX2_spilledBy : ByteArray := prog_4_method_6_code
def yX2_spilledBy : MethodName := ⟨RX2, "spilledBy", "(II)I"⟩
abbrev cX2_beatsBest : ByteArray := prog_4_method_7_code
def yX2_beatsBest : MethodName := ⟨RX2, "beatsBest", "(II)Z"⟩
abbrev cX2_keepBest : ByteArray := prog_4_method_8_code
def yX2_keepBest : MethodName := ⟨RX2, "keepBest", "(II)V"⟩
def RX3 : String := "ResinWoods$Tally"
def TX3 : u_T := fun k => match k with
  | 0 => ("ResinWoods$Tally", "ran", "I", false)
  | 1 => ("ResinWoods$Tally", "ranOver", "I", false)
  | _ => ("ResinWoods$Tally", "washed", "I", false)
def tyX3 : Nat → FieldType := fun k => match k with
  | 0 => .int
  | 1 => .int
  | _ => .int
abbrev wsX30 : List Cond := u_ws RX3 TX3 3
theorem nmX3 : ∀ a, a < 3 → ∀ b, b < 3 → a ≠ b → (TX3 a).2.1 ≠ (TX3 b).2.1 := by decide +kernel
theorem tyX3_ok : ∀ k, k < 3 → parseFieldDescriptor (TX3 k).2.2.1 = some (tyX3 k) := by decide +kernel
abbrev cX3_init : ByteArray := prog_5_method_1_code
def yX3_init : MethodName := ⟨RX3, "<init>", "()V"⟩
def RX4 : String := "ResinWoods$Tree"
def TX4 : u_T := fun k => match k with
  | 0 => ("ResinWoods$Tree", "number", "I", true)
  | 1 => ("ResinWoods$Tree", "wood", "LResinWoods$Wood;", true)
  | 2 => ("ResinWoods$Tree", "where", "I", true)
  | 3 => ("ResinWoods$Tree", "borne", "I", true)
  | 4 => ("ResinWoods$Tree", "faces", "Ljava/util/List;", true)
  | 5 => ("ResinWoods$Tree", "isBurnt", "Z", false)
  | _ => ("ResinWoods$Tree", "yearsCut", "I", false)
def tyX4 : Nat → FieldType := fun k => match k with
  | 0 => .int
  | 1 => .object "ResinWoods$Wood"
  | 2 => .int
  | 3 => .int
  | 4 => .object "java/util/List"
  | 5 => .boolean
  | _ => .int
abbrev wsX40 : List Cond := u_ws RX4 TX4 7
theorem nmX4 : ∀ a, a < 7 → ∀ b, b < 7 → a ≠ b → (TX4 a).2.1 ≠ (TX4 b).2.1 := by decide +kernel
theorem tyX4_ok : ∀ k, k < 7 → parseFieldDescriptor (TX4 k).2.2.1 = some (tyX4 k) := by decide +kernel
abbrev cX4_init : ByteArray := prog_6_method_1_code
def yX4_init : MethodName := ⟨RX4, "<init>", "(ILResinWoods$Wood;II)V"⟩
abbrev cX4_faceAt : ByteArray := prog_6_method_2_code
def yX4_faceAt : MethodName := ⟨RX4, "faceAt", "(I)LResinWoods$Face;"⟩
abbrev cX4_mayOpen : ByteArray := prog_6_method_3_code
def yX4_mayOpen : MethodName := ⟨RX4, "mayOpen", "(I)Z"⟩
abbrev cX4_openFace : ByteArray := prog_6_method_4_code
def yX4_openFace : MethodName := ⟨RX4, "openFace", "(I)LResinWoods$Face;"⟩
abbrev cX4_streakOn : ByteArray := prog_6_method_5_code
def yX4_streakOn : MethodName := ⟨RX4, "streakOn", "(LResinWoods$Face;I)I"⟩
abbrev cX4_restsIn : ByteArray := prog_6_method_6_code
def yX4_restsIn : MethodName := ⟨RX4, "restsIn", "(I)Z"⟩
abbrev cX4_inCups : ByteArray := prog_6_method_7_code
def yX4_inCups : MethodName := ⟨RX4, "inCups", "()I"⟩
abbrev cX4_takeFire : ByteArray := prog_6_method_8_code
def yX4_takeFire : MethodName := ⟨RX4, "takeFire", "()I"⟩
def RX5 : String := "ResinWoods$Wood"
def TX5 : u_T := fun k => match k with
  | 0 => ("ResinWoods$Wood", "number", "I", true)
  | 1 => ("ResinWoods$Wood", "isLet", "Z", false)
  | 2 => ("ResinWoods$Wood", "rent", "I", false)
  | 3 => ("ResinWoods$Wood", "emptied", "I", false)
  | 4 => ("ResinWoods$Wood", "paid", "I", false)
  | _ => ("ResinWoods$Wood", "latest", "LResinWoods$Barrel;", false)
def tyX5 : Nat → FieldType := fun k => match k with
  | 0 => .int
  | 1 => .boolean
  | 2 => .int
  | 3 => .int
  | 4 => .int
  | _ => .object "ResinWoods$Barrel"
abbrev wsX50 : List Cond := u_ws RX5 TX5 6
theorem nmX5 : ∀ a, a < 6 → ∀ b, b < 6 → a ≠ b → (TX5 a).2.1 ≠ (TX5 b).2.1 := by decide +kernel
theorem tyX5_ok : ∀ k, k < 6 → parseFieldDescriptor (TX5 k).2.2.1 = some (tyX5 k) := by decide +kernel
abbrev cX5_init : ByteArray := prog_7_method_1_code
def yX5_init : MethodName := ⟨RX5, "<init>", "(I)V"⟩
abbrev cX5_letFor : ByteArray := prog_7_method_2_code
def yX5_letFor : MethodName := ⟨RX5, "letFor", "(I)V"⟩
abbrev cX5_stillDue : ByteArray := prog_7_method_3_code
def yX5_stillDue : MethodName := ⟨RX5, "stillDue", "()I"⟩
abbrev cX5_openBarrel : ByteArray := prog_7_method_4_code
def yX5_openBarrel : MethodName := ⟨RX5, "openBarrel", "()LResinWoods$Barrel;"⟩
def RX6 : String := "ResinWoods"
def TX6 : u_T := fun k => match k with
  | 0 => ("ResinWoods", "warmths", "[B", true)
  | 1 => ("ResinWoods", "rains", "[B", true)
  | 2 => ("ResinWoods", "woods", "[LResinWoods$Wood;", true)
  | 3 => ("ResinWoods", "trees", "Ljava/util/List;", true)
  | 4 => ("ResinWoods", "barrels", "Ljava/util/List;", true)
  | 5 => ("ResinWoods", "tally", "LResinWoods$Tally;", true)
  | 6 => ("ResinWoods", "planner", "LResinWoods$Planner;", true)
  | 7 => ("ResinWoods", "now", "I", false)
  | 8 => ("ResinWoods", "emptied", "I", false)
  | 9 => ("ResinWoods", "burnt", "I", false)
  | 10 => ("ResinWoods", "spirit", "I", false)
  | _ => ("ResinWoods", "rosin", "I", false)
def tyX6 : Nat → FieldType := fun k => match k with
  | 0 => .array .byte
  | 1 => .array .byte
  | 2 => .array (.object "ResinWoods$Wood")
  | 3 => .object "java/util/List"
  | 4 => .object "java/util/List"
  | 5 => .object "ResinWoods$Tally"
  | 6 => .object "ResinWoods$Planner"
  | 7 => .int
  | 8 => .int
  | 9 => .int
  | 10 => .int
  | _ => .int
abbrev wsX60 : List Cond := u_ws RX6 TX6 12
theorem nmX6 : ∀ a, a < 12 → ∀ b, b < 12 → a ≠ b → (TX6 a).2.1 ≠ (TX6 b).2.1 := by decide +kernel
theorem tyX6_ok : ∀ k, k < 12 → parseFieldDescriptor (TX6 k).2.2.1 = some (tyX6 k) := by decide +kernel
abbrev cX6_init : ByteArray := prog_1_method_1_code
def yX6_init : MethodName := ⟨RX6, "<init>", "()V"⟩
abbrev cX6_tree : ByteArray := prog_1_method_2_code
def yX6_tree : MethodName := ⟨RX6, "tree", "(III)I"⟩
abbrev cX6_bears : ByteArray := prog_1_method_3_code
def yX6_bears : MethodName := ⟨RX6, "bears", "(I)I"⟩
abbrev cX6_weather : ByteArray := prog_1_method_4_code
def yX6_weather : MethodName := ⟨RX6, "weather", "(IIII)Z"⟩
abbrev cX6_cut : ByteArray := prog_1_method_5_code
def yX6_cut : MethodName := ⟨RX6, "cut", "(II)I"⟩
abbrev cX6_rests : ByteArray := prog_1_method_6_code
def yX6_rests : MethodName := ⟨RX6, "rests", "(I)Z"⟩
abbrev cX6_go : ByteArray := prog_1_method_7_code
def yX6_go : MethodName := ⟨RX6, "go", "(I)I"⟩
abbrev cX6_face : ByteArray := prog_1_method_8_code
def yX6_face : MethodName := ⟨RX6, "face", "(III)I"⟩
abbrev cX6_empty : ByteArray := prog_1_method_9_code
def yX6_empty : MethodName := ⟨RX6, "empty", "(I)I"⟩
abbrev cX6_barrel : ByteArray := prog_1_method_10_code
def yX6_barrel : MethodName := ⟨RX6, "barrel", "(II)I"⟩
abbrev cX6_from : ByteArray := prog_1_method_11_code
def yX6_from : MethodName := ⟨RX6, "from", "(II)I"⟩
abbrev cX6_still : ByteArray := prog_1_method_12_code
def yX6_still : MethodName := ⟨RX6, "still", "(I)I"⟩
abbrev cX6_let : ByteArray := prog_1_method_13_code
def yX6_let : MethodName := ⟨RX6, "let", "(II)Z"⟩
abbrev cX6_due : ByteArray := prog_1_method_14_code
def yX6_due : MethodName := ⟨RX6, "due", "(I)I"⟩
abbrev cX6_pay : ByteArray := prog_1_method_15_code
def yX6_pay : MethodName := ⟨RX6, "pay", "(I)I"⟩
abbrev cX6_burn : ByteArray := prog_1_method_16_code
def yX6_burn : MethodName := ⟨RX6, "burn", "(I)I"⟩
abbrev cX6_walk : ByteArray := prog_1_method_17_code
def yX6_walk : MethodName := ⟨RX6, "walk", "(IIII)I"⟩
abbrev cX6_walked : ByteArray := prog_1_method_18_code
def yX6_walked : MethodName := ⟨RX6, "walked", "(IIII)I"⟩
abbrev cX6_count : ByteArray := prog_1_method_19_code
def yX6_count : MethodName := ⟨RX6, "count", "(I)I"⟩
abbrev cX6_isPlace : ByteArray := prog_1_method_20_code
def yX6_isPlace : MethodName := ⟨RX6, "isPlace", "(I)Z"⟩
abbrev cX6_isGirth : ByteArray := prog_1_method_21_code
def yX6_isGirth : MethodName := ⟨RX6, "isGirth", "(I)Z"⟩
abbrev cX6_isWeather : ByteArray := prog_1_method_22_code
def yX6_isWeather : MethodName := ⟨RX6, "isWeather", "(I)Z"⟩
abbrev cX6_facesBorneBy : ByteArray := prog_1_method_23_code
def yX6_facesBorneBy : MethodName := ⟨RX6, "facesBorneBy", "(I)I"⟩
abbrev cX6_yearOf : ByteArray := prog_1_method_24_code
def yX6_yearOf : MethodName := ⟨RX6, "yearOf", "(I)I"⟩
abbrev cX6_woodAt : ByteArray := prog_1_method_25_code
def yX6_woodAt : MethodName := ⟨RX6, "woodAt", "(I)LResinWoods$Wood;"⟩
abbrev cX6_treeAt : ByteArray := prog_1_method_26_code
def yX6_treeAt : MethodName := ⟨RX6, "treeAt", "(I)LResinWoods$Tree;"⟩
abbrev cX6_barrelAt : ByteArray := prog_1_method_27_code
def yX6_barrelAt : MethodName := ⟨RX6, "barrelAt", "(I)LResinWoods$Barrel;"⟩
abbrev cX6_endDay : ByteArray := prog_1_method_28_code
def yX6_endDay : MethodName := ⟨RX6, "endDay", "()V"⟩
abbrev cX6_inAllCups : ByteArray := prog_1_method_29_code
def yX6_inAllCups : MethodName := ⟨RX6, "inAllCups", "()I"⟩
abbrev cX6_newBarrelsFor : ByteArray := prog_1_method_30_code
def yX6_newBarrelsFor : MethodName := ⟨RX6, "newBarrelsFor", "(LResinWoods$Wood;I)I"⟩
abbrev cX6_pourCup : ByteArray := prog_1_method_31_code
def yX6_pourCup : MethodName := ⟨RX6, "pourCup", "(LResinWoods$Tree;LResinWoods$Face;)V"⟩
abbrev cX6_pour : ByteArray := prog_1_method_32_code
def yX6_pour : MethodName := ⟨RX6, "pour", "(LResinWoods$Tree;II)V"⟩
abbrev cX6_planWalk : ByteArray := prog_1_method_33_code
def yX6_planWalk : MethodName := ⟨RX6, "planWalk", "(III)Z"⟩
abbrev cX6_foreseeTree : ByteArray := prog_1_method_34_code
def yX6_foreseeTree : MethodName := ⟨RX6, "foreseeTree", "(LResinWoods$Tree;I)V"⟩
def RX7 : String := "ResinWoodsModel"
def TX7 : u_T := fun k => match k with
  | 0 => ("ResinWoodsModel", "now", "I", false)
  | 1 => ("ResinWoodsModel", "warmth", "[I", true)
  | 2 => ("ResinWoodsModel", "rain", "[I", true)
  | 3 => ("ResinWoodsModel", "trees", "I", false)
  | 4 => ("ResinWoodsModel", "wood", "[I", true)
  | 5 => ("ResinWoodsModel", "placeX", "[I", true)
  | 6 => ("ResinWoodsModel", "placeY", "[I", true)
  | 7 => ("ResinWoodsModel", "girth", "[I", true)
  | 8 => ("ResinWoodsModel", "isBurnt", "[Z", true)
  | 9 => ("ResinWoodsModel", "opened", "[I", true)
  | 10 => ("ResinWoodsModel", "years", "[I", true)
  | 11 => ("ResinWoodsModel", "streaks", "[I", true)
  | 12 => ("ResinWoodsModel", "latest", "[I", true)
  | 13 => ("ResinWoodsModel", "openYear", "[I", true)
  | 14 => ("ResinWoodsModel", "cups", "[I", true)
  | 15 => ("ResinWoodsModel", "overOf", "[I", true)
  | 16 => ("ResinWoodsModel", "barrels", "I", false)
  | 17 => ("ResinWoodsModel", "barrelWood", "[I", true)
  | 18 => ("ResinWoodsModel", "barrelHas", "[I", true)
  | 19 => ("ResinWoodsModel", "barrelFrom", "[I", true)
  | 20 => ("ResinWoodsModel", "isStilled", "[Z", true)
  | 21 => ("ResinWoodsModel", "isPaid", "[Z", true)
  | 22 => ("ResinWoodsModel", "isLet", "[Z", true)
  | 23 => ("ResinWoodsModel", "rent", "[I", true)
  | 24 => ("ResinWoodsModel", "taken", "[I", true)
  | 25 => ("ResinWoodsModel", "paid", "[I", true)
  | 26 => ("ResinWoodsModel", "ran", "I", false)
  | 27 => ("ResinWoodsModel", "over", "I", false)
  | 28 => ("ResinWoodsModel", "washed", "I", false)
  | 29 => ("ResinWoodsModel", "burnt", "I", false)
  | 30 => ("ResinWoodsModel", "emptied", "I", false)
  | 31 => ("ResinWoodsModel", "spirit", "I", false)
  | 32 => ("ResinWoodsModel", "rosin", "I", false)
  | 33 => ("ResinWoodsModel", "chosen", "[I", true)
  | 34 => ("ResinWoodsModel", "runsOver", "[I", true)
  | 35 => ("ResinWoodsModel", "order", "[I", true)
  | 36 => ("ResinWoodsModel", "best", "[I", true)
  | 37 => ("ResinWoodsModel", "bestOver", "I", false)
  | _ => ("ResinWoodsModel", "bestSteps", "I", false)
def tyX7 : Nat → FieldType := fun k => match k with
  | 0 => .int
  | 1 => .array .int
  | 2 => .array .int
  | 3 => .int
  | 4 => .array .int
  | 5 => .array .int
  | 6 => .array .int
  | 7 => .array .int
  | 8 => .array .boolean
  | 9 => .array .int
  | 10 => .array .int
  | 11 => .array .int
  | 12 => .array .int
  | 13 => .array .int
  | 14 => .array .int
  | 15 => .array .int
  | 16 => .int
  | 17 => .array .int
  | 18 => .array .int
  | 19 => .array .int
  | 20 => .array .boolean
  | 21 => .array .boolean
  | 22 => .array .boolean
  | 23 => .array .int
  | 24 => .array .int
  | 25 => .array .int
  | 26 => .int
  | 27 => .int
  | 28 => .int
  | 29 => .int
  | 30 => .int
  | 31 => .int
  | 32 => .int
  | 33 => .array .int
  | 34 => .array .int
  | 35 => .array .int
  | 36 => .array .int
  | 37 => .int
  | _ => .int
abbrev wsX70 : List Cond := u_ws RX7 TX7 39
theorem nmX7 : ∀ a, a < 39 → ∀ b, b < 39 → a ≠ b → (TX7 a).2.1 ≠ (TX7 b).2.1 := by decide +kernel
theorem tyX7_ok : ∀ k, k < 39 → parseFieldDescriptor (TX7 k).2.2.1 = some (tyX7 k) := by decide +kernel
abbrev cX7_init : ByteArray := prog_9_method_1_code
def yX7_init : MethodName := ⟨RX7, "<init>", "()V"⟩
abbrev cX7_in : ByteArray := prog_9_method_2_code
def yX7_in : MethodName := ⟨RX7, "in", "(III)Z"⟩
abbrev cX7_isTree : ByteArray := prog_9_method_3_code
def yX7_isTree : MethodName := ⟨RX7, "isTree", "(I)Z"⟩
abbrev cX7_tree : ByteArray := prog_9_method_4_code
def yX7_tree : MethodName := ⟨RX7, "tree", "(III)I"⟩
abbrev cX7_bears : ByteArray := prog_9_method_5_code
def yX7_bears : MethodName := ⟨RX7, "bears", "(I)I"⟩
abbrev cX7_weather : ByteArray := prog_9_method_6_code
def yX7_weather : MethodName := ⟨RX7, "weather", "(IIII)Z"⟩
abbrev cX7_cut : ByteArray := prog_9_method_7_code
def yX7_cut : MethodName := ⟨RX7, "cut", "(II)I"⟩
abbrev cX7_rests : ByteArray := prog_9_method_8_code
def yX7_rests : MethodName := ⟨RX7, "rests", "(I)Z"⟩
abbrev cX7_strength : ByteArray := prog_9_method_9_code
def yX7_strength : MethodName := ⟨RX7, "strength", "(I)I"⟩
abbrev cX7_inCup : ByteArray := prog_9_method_10_code
def yX7_inCup : MethodName := ⟨RX7, "inCup", "(I)I"⟩
abbrev cX7_gradeOf : ByteArray := prog_9_method_11_code
def yX7_gradeOf : MethodName := ⟨RX7, "gradeOf", "(II)I"⟩
abbrev cX7_go : ByteArray := prog_9_method_12_code
def yX7_go : MethodName := ⟨RX7, "go", "(I)I"⟩
abbrev cX7_runs : ByteArray := prog_9_method_13_code
def yX7_runs : MethodName := ⟨RX7, "runs", "(I)V"⟩
abbrev cX7_washes : ByteArray := prog_9_method_14_code
def yX7_washes : MethodName := ⟨RX7, "washes", "(I)V"⟩
abbrev cX7_face : ByteArray := prog_9_method_15_code
def yX7_face : MethodName := ⟨RX7, "face", "(III)I"⟩
abbrev cX7_has : ByteArray := prog_9_method_16_code
def yX7_has : MethodName := ⟨RX7, "has", "(I)I"⟩
abbrev cX7_isFull : ByteArray := prog_9_method_17_code
def yX7_isFull : MethodName := ⟨RX7, "isFull", "(I)Z"⟩
abbrev cX7_room : ByteArray := prog_9_method_18_code
def yX7_room : MethodName := ⟨RX7, "room", "(I)I"⟩
abbrev cX7_empty : ByteArray := prog_9_method_19_code
def yX7_empty : MethodName := ⟨RX7, "empty", "(I)I"⟩
abbrev cX7_fills : ByteArray := prog_9_method_20_code
def yX7_fills : MethodName := ⟨RX7, "fills", "(III)V"⟩
abbrev cX7_isBarrel : ByteArray := prog_9_method_21_code
def yX7_isBarrel : MethodName := ⟨RX7, "isBarrel", "(I)Z"⟩
abbrev cX7_grade : ByteArray := prog_9_method_22_code
def yX7_grade : MethodName := ⟨RX7, "grade", "(I)I"⟩
abbrev cX7_barrel : ByteArray := prog_9_method_23_code
def yX7_barrel : MethodName := ⟨RX7, "barrel", "(II)I"⟩
abbrev cX7_from : ByteArray := prog_9_method_24_code
def yX7_from : MethodName := ⟨RX7, "from", "(II)I"⟩
abbrev cX7_still : ByteArray := prog_9_method_25_code
def yX7_still : MethodName := ⟨RX7, "still", "(I)I"⟩
abbrev cX7_isWood : ByteArray := prog_9_method_26_code
def yX7_isWood : MethodName := ⟨RX7, "isWood", "(I)Z"⟩
abbrev cX7_let : ByteArray := prog_9_method_27_code
def yX7_let : MethodName := ⟨RX7, "let", "(II)Z"⟩
abbrev cX7_due : ByteArray := prog_9_method_28_code
def yX7_due : MethodName := ⟨RX7, "due", "(I)I"⟩
abbrev cX7_pay : ByteArray := prog_9_method_29_code
def yX7_pay : MethodName := ⟨RX7, "pay", "(I)I"⟩
abbrev cX7_burn : ByteArray := prog_9_method_30_code
def yX7_burn : MethodName := ⟨RX7, "burn", "(I)I"⟩
abbrev cX7_chooses : ByteArray := prog_9_method_31_code
def yX7_chooses : MethodName := ⟨RX7, "chooses", "(II)I"⟩
abbrev cX7_foresees : ByteArray := prog_9_method_32_code
def yX7_foresees : MethodName := ⟨RX7, "foresees", "(I)V"⟩
abbrev cX7_apart : ByteArray := prog_9_method_33_code
def yX7_apart : MethodName := ⟨RX7, "apart", "(IIII)I"⟩
abbrev cX7_walks : ByteArray := prog_9_method_34_code
def yX7_walks : MethodName := ⟨RX7, "walks", "(III)I"⟩
abbrev cX7_orders : ByteArray := prog_9_method_35_code
def yX7_orders : MethodName := ⟨RX7, "orders", "(II)V"⟩
abbrev cX7_walk : ByteArray := prog_9_method_36_code
def yX7_walk : MethodName := ⟨RX7, "walk", "(IIII)I"⟩
abbrev cX7_walked : ByteArray := prog_9_method_37_code
def yX7_walked : MethodName := ⟨RX7, "walked", "(IIII)I"⟩
abbrev cX7_count : ByteArray := prog_9_method_38_code
def yX7_count : MethodName := ⟨RX7, "count", "(I)I"⟩
def RJx145de : String := "java/io/Serializable"
def TJx145de : u_T := fun k => match k with
  | _ => ("", "", "", false)
def tyJx145de : Nat → FieldType := fun k => match k with
  | _ => .int
abbrev wsJx145de0 : List Cond := u_ws RJx145de TJx145de 0
theorem nmJx145de : ∀ a, a < 0 → ∀ b, b < 0 → a ≠ b → (TJx145de a).2.1 ≠ (TJx145de b).2.1 := by decide +kernel
theorem tyJx145de_ok : ∀ k, k < 0 → parseFieldDescriptor (TJx145de k).2.2.1 = some (tyJx145de k) := by decide +kernel
def RJx8e188 : String := "java/lang/Cloneable"
def TJx8e188 : u_T := fun k => match k with
  | _ => ("", "", "", false)
def tyJx8e188 : Nat → FieldType := fun k => match k with
  | _ => .int
abbrev wsJx8e1880 : List Cond := u_ws RJx8e188 TJx8e188 0
theorem nmJx8e188 : ∀ a, a < 0 → ∀ b, b < 0 → a ≠ b → (TJx8e188 a).2.1 ≠ (TJx8e188 b).2.1 := by decide +kernel
theorem tyJx8e188_ok : ∀ k, k < 0 → parseFieldDescriptor (TJx8e188 k).2.2.1 = some (tyJx8e188 k) := by decide +kernel
def RJ6 : String := "java/lang/Integer"
def TJ6 : u_T := fun k => match k with
  | _ => ("", "", "", false)
def tyJ6 : Nat → FieldType := fun k => match k with
  | _ => .int
abbrev wsJ60 : List Cond := u_ws RJ6 TJ6 0
theorem nmJ6 : ∀ a, a < 0 → ∀ b, b < 0 → a ≠ b → (TJ6 a).2.1 ≠ (TJ6 b).2.1 := by decide +kernel
theorem tyJ6_ok : ∀ k, k < 0 → parseFieldDescriptor (TJ6 k).2.2.1 = some (tyJ6 k) := by decide +kernel
abbrev cJ6_bitCount_0f7a4 : ByteArray := prog_12_method_49_code
def yJ6_bitCount_0f7a4 : MethodName := ⟨RJ6, "bitCount", "(I)I"⟩
def RJxab1ab : String := "java/lang/Iterable"
def TJxab1ab : u_T := fun k => match k with
  | _ => ("", "", "", false)
def tyJxab1ab : Nat → FieldType := fun k => match k with
  | _ => .int
abbrev wsJxab1ab0 : List Cond := u_ws RJxab1ab TJxab1ab 0
theorem nmJxab1ab : ∀ a, a < 0 → ∀ b, b < 0 → a ≠ b → (TJxab1ab a).2.1 ≠ (TJxab1ab b).2.1 := by decide +kernel
theorem tyJxab1ab_ok : ∀ k, k < 0 → parseFieldDescriptor (TJxab1ab k).2.2.1 = some (tyJxab1ab k) := by decide +kernel
def RJ9 : String := "java/lang/Math"
def TJ9 : u_T := fun k => match k with
  | _ => ("", "", "", false)
def tyJ9 : Nat → FieldType := fun k => match k with
  | _ => .int
abbrev wsJ90 : List Cond := u_ws RJ9 TJ9 0
theorem nmJ9 : ∀ a, a < 0 → ∀ b, b < 0 → a ≠ b → (TJ9 a).2.1 ≠ (TJ9 b).2.1 := by decide +kernel
theorem tyJ9_ok : ∀ k, k < 0 → parseFieldDescriptor (TJ9 k).2.2.1 = some (tyJ9 k) := by decide +kernel
abbrev cJ9_abs_0f7a4 : ByteArray := prog_14_method_59_code
def yJ9_abs_0f7a4 : MethodName := ⟨RJ9, "abs", "(I)I"⟩
abbrev cJ9_max_7cf53 : ByteArray := prog_14_method_65_code
def yJ9_max_7cf53 : MethodName := ⟨RJ9, "max", "(II)I"⟩
abbrev cJ9_min_7cf53 : ByteArray := prog_14_method_69_code
def yJ9_min_7cf53 : MethodName := ⟨RJ9, "min", "(II)I"⟩
def RJ10 : String := "java/lang/System"
def TJ10 : u_T := fun k => match k with
  | _ => ("", "", "", false)
def tyJ10 : Nat → FieldType := fun k => match k with
  | _ => .int
abbrev wsJ100 : List Cond := u_ws RJ10 TJ10 0
theorem nmJ10 : ∀ a, a < 0 → ∀ b, b < 0 → a ≠ b → (TJ10 a).2.1 ≠ (TJ10 b).2.1 := by decide +kernel
theorem tyJ10_ok : ∀ k, k < 0 → parseFieldDescriptor (TJ10 k).2.2.1 = some (tyJ10 k) := by decide +kernel
def RJxa1e45 : String := "java/util/AbstractCollection"
def TJxa1e45 : u_T := fun k => match k with
  | _ => ("", "", "", false)
def tyJxa1e45 : Nat → FieldType := fun k => match k with
  | _ => .int
abbrev wsJxa1e450 : List Cond := u_ws RJxa1e45 TJxa1e45 0
theorem nmJxa1e45 : ∀ a, a < 0 → ∀ b, b < 0 → a ≠ b → (TJxa1e45 a).2.1 ≠ (TJxa1e45 b).2.1 := by decide +kernel
theorem tyJxa1e45_ok : ∀ k, k < 0 → parseFieldDescriptor (TJxa1e45 k).2.2.1 = some (tyJxa1e45 k) := by decide +kernel
abbrev cJxa1e45_init_da8c8 : ByteArray := prog_16_method_1_code
def yJxa1e45_init_da8c8 : MethodName := ⟨RJxa1e45, "<init>", "()V"⟩
def RJxc12de : String := "java/util/AbstractList"
def TJxc12de : u_T := fun k => match k with
  | _ => ("", "", "", false)
def tyJxc12de : Nat → FieldType := fun k => match k with
  | _ => .int
abbrev wsJxc12de0 : List Cond := u_ws RJxc12de TJxc12de 0
theorem nmJxc12de : ∀ a, a < 0 → ∀ b, b < 0 → a ≠ b → (TJxc12de a).2.1 ≠ (TJxc12de b).2.1 := by decide +kernel
theorem tyJxc12de_ok : ∀ k, k < 0 → parseFieldDescriptor (TJxc12de k).2.2.1 = some (tyJxc12de k) := by decide +kernel
abbrev cJxc12de_init_da8c8 : ByteArray := prog_17_method_1_code
def yJxc12de_init_da8c8 : MethodName := ⟨RJxc12de, "<init>", "()V"⟩
def RJx4a65c : String := "java/util/ArrayList"
def TJx4a65c : u_T := fun k => match k with
  | 0 => ("java/util/AbstractList", "modCount", "I", false)
  | 1 => ("java/util/ArrayList", "elementData", "[Ljava/lang/Object;", false)
  | _ => ("java/util/ArrayList", "size", "I", false)
def tyJx4a65c : Nat → FieldType := fun k => match k with
  | 0 => .int
  | 1 => .array (.object "java/lang/Object")
  | _ => .int
abbrev wsJx4a65c0 : List Cond := u_ws RJx4a65c TJx4a65c 3
theorem nmJx4a65c : ∀ a, a < 3 → ∀ b, b < 3 → a ≠ b → (TJx4a65c a).2.1 ≠ (TJx4a65c b).2.1 := by decide +kernel
theorem tyJx4a65c_ok : ∀ k, k < 3 → parseFieldDescriptor (TJx4a65c k).2.2.1 = some (tyJx4a65c k) := by decide +kernel
abbrev cJx4a65c_init_da8c8 : ByteArray := prog_18_method_2_code
def yJx4a65c_init_da8c8 : MethodName := ⟨RJx4a65c, "<init>", "()V"⟩
abbrev cJx4a65c_grow_92f84 : ByteArray := prog_18_method_6_code
def yJx4a65c_grow_92f84 : MethodName := ⟨RJx4a65c, "grow", "(I)[Ljava/lang/Object;"⟩
abbrev cJx4a65c_grow_d5877 : ByteArray := prog_18_method_7_code
def yJx4a65c_grow_d5877 : MethodName := ⟨RJx4a65c, "grow", "()[Ljava/lang/Object;"⟩
abbrev cJx4a65c_size_8abf5 : ByteArray := prog_18_method_8_code
def yJx4a65c_size_8abf5 : MethodName := ⟨RJx4a65c, "size", "()I"⟩
abbrev cJx4a65c_elementData_915e3 : ByteArray := prog_18_method_18_code
def yJx4a65c_elementData_915e3 : MethodName := ⟨RJx4a65c, "elementData", "(I)Ljava/lang/Object;"⟩
abbrev cJx4a65c_get_915e3 : ByteArray := prog_18_method_20_code
def yJx4a65c_get_915e3 : MethodName := ⟨RJx4a65c, "get", "(I)Ljava/lang/Object;"⟩
abbrev cJx4a65c_add_72be8 : ByteArray := prog_18_method_24_code
def yJx4a65c_add_72be8 : MethodName := ⟨RJx4a65c, "add", "(Ljava/lang/Object;[Ljava/lang/Object;I)V"⟩
abbrev cJx4a65c_add_9ea2d : ByteArray := prog_18_method_25_code
def yJx4a65c_add_9ea2d : MethodName := ⟨RJx4a65c, "add", "(Ljava/lang/Object;)Z"⟩
def RJ7 : String := "java/util/Arrays"
def TJ7 : u_T := fun k => match k with
  | _ => ("", "", "", false)
def tyJ7 : Nat → FieldType := fun k => match k with
  | _ => .int
abbrev wsJ70 : List Cond := u_ws RJ7 TJ7 0
theorem nmJ7 : ∀ a, a < 0 → ∀ b, b < 0 → a ≠ b → (TJ7 a).2.1 ≠ (TJ7 b).2.1 := by decide +kernel
theorem tyJ7_ok : ∀ k, k < 0 → parseFieldDescriptor (TJ7 k).2.2.1 = some (tyJ7 k) := by decide +kernel
abbrev cJ7_copyOf_1904c : ByteArray := prog_19_method_119_code
def yJ7_copyOf_1904c : MethodName := ⟨RJ7, "copyOf", "([Ljava/lang/Object;I)[Ljava/lang/Object;"⟩
abbrev cJ7_copyOf_6403c : ByteArray := prog_19_method_120_code
def yJ7_copyOf_6403c : MethodName := ⟨RJ7, "copyOf", "([Ljava/lang/Object;ILjava/lang/Class;)[Ljava/lang/Object;"⟩
def RJx5ef63 : String := "java/util/Collection"
def TJx5ef63 : u_T := fun k => match k with
  | _ => ("", "", "", false)
def tyJx5ef63 : Nat → FieldType := fun k => match k with
  | _ => .int
abbrev wsJx5ef630 : List Cond := u_ws RJx5ef63 TJx5ef63 0
theorem nmJx5ef63 : ∀ a, a < 0 → ∀ b, b < 0 → a ≠ b → (TJx5ef63 a).2.1 ≠ (TJx5ef63 b).2.1 := by decide +kernel
theorem tyJx5ef63_ok : ∀ k, k < 0 → parseFieldDescriptor (TJx5ef63 k).2.2.1 = some (tyJx5ef63 k) := by decide +kernel
def RJxbd725 : String := "java/util/List"
def TJxbd725 : u_T := fun k => match k with
  | _ => ("", "", "", false)
def tyJxbd725 : Nat → FieldType := fun k => match k with
  | _ => .int
abbrev wsJxbd7250 : List Cond := u_ws RJxbd725 TJxbd725 0
theorem nmJxbd725 : ∀ a, a < 0 → ∀ b, b < 0 → a ≠ b → (TJxbd725 a).2.1 ≠ (TJxbd725 b).2.1 := by decide +kernel
theorem tyJxbd725_ok : ∀ k, k < 0 → parseFieldDescriptor (TJxbd725 k).2.2.1 = some (tyJxbd725 k) := by decide +kernel
def RJ15 : String := "java/util/Objects"
def TJ15 : u_T := fun k => match k with
  | _ => ("", "", "", false)
def tyJ15 : Nat → FieldType := fun k => match k with
  | _ => .int
abbrev wsJ150 : List Cond := u_ws RJ15 TJ15 0
theorem nmJ15 : ∀ a, a < 0 → ∀ b, b < 0 → a ≠ b → (TJ15 a).2.1 ≠ (TJ15 b).2.1 := by decide +kernel
theorem tyJ15_ok : ∀ k, k < 0 → parseFieldDescriptor (TJ15 k).2.2.1 = some (tyJ15 k) := by decide +kernel
abbrev cJ15_checkIndex_7cf53 : ByteArray := prog_22_method_17_code
def yJ15_checkIndex_7cf53 : MethodName := ⟨RJ15, "checkIndex", "(II)I"⟩
def RJxf0a74 : String := "java/util/RandomAccess"
def TJxf0a74 : u_T := fun k => match k with
  | _ => ("", "", "", false)
def tyJxf0a74 : Nat → FieldType := fun k => match k with
  | _ => .int
abbrev wsJxf0a740 : List Cond := u_ws RJxf0a74 TJxf0a74 0
theorem nmJxf0a74 : ∀ a, a < 0 → ∀ b, b < 0 → a ≠ b → (TJxf0a74 a).2.1 ≠ (TJxf0a74 b).2.1 := by decide +kernel
theorem tyJxf0a74_ok : ∀ k, k < 0 → parseFieldDescriptor (TJxf0a74 k).2.2.1 = some (tyJxf0a74 k) := by decide +kernel
def RJxa66e6 : String := "java/util/SequencedCollection"
def TJxa66e6 : u_T := fun k => match k with
  | _ => ("", "", "", false)
def tyJxa66e6 : Nat → FieldType := fun k => match k with
  | _ => .int
abbrev wsJxa66e60 : List Cond := u_ws RJxa66e6 TJxa66e6 0
theorem nmJxa66e6 : ∀ a, a < 0 → ∀ b, b < 0 → a ≠ b → (TJxa66e6 a).2.1 ≠ (TJxa66e6 b).2.1 := by decide +kernel
theorem tyJxa66e6_ok : ∀ k, k < 0 → parseFieldDescriptor (TJxa66e6 k).2.2.1 = some (tyJxa66e6 k) := by decide +kernel
def RJ8 : String := "jdk/internal/util/ArraysSupport"
def TJ8 : u_T := fun k => match k with
  | _ => ("", "", "", false)
def tyJ8 : Nat → FieldType := fun k => match k with
  | _ => .int
abbrev wsJ80 : List Cond := u_ws RJ8 TJ8 0
theorem nmJ8 : ∀ a, a < 0 → ∀ b, b < 0 → a ≠ b → (TJ8 a).2.1 ≠ (TJ8 b).2.1 := by decide +kernel
theorem tyJ8_ok : ∀ k, k < 0 → parseFieldDescriptor (TJ8 k).2.2.1 = some (tyJ8 k) := by decide +kernel
abbrev cJ8_newLength_cabcc : ByteArray := prog_25_method_27_code
def yJ8_newLength_cabcc : MethodName := ⟨RJ8, "newLength", "(III)I"⟩
abbrev cJ8_hugeLength_7cf53 : ByteArray := prog_25_method_28_code
def yJ8_hugeLength_7cf53 : MethodName := ⟨RJ8, "hugeLength", "(II)I"⟩
def RJ3 : String := "jdk/internal/util/Preconditions"
def TJ3 : u_T := fun k => match k with
  | _ => ("", "", "", false)
def tyJ3 : Nat → FieldType := fun k => match k with
  | _ => .int
abbrev wsJ30 : List Cond := u_ws RJ3 TJ3 0
theorem nmJ3 : ∀ a, a < 0 → ∀ b, b < 0 → a ≠ b → (TJ3 a).2.1 ≠ (TJ3 b).2.1 := by decide +kernel
theorem tyJ3_ok : ∀ k, k < 0 → parseFieldDescriptor (TJ3 k).2.2.1 = some (tyJ3 k) := by decide +kernel
abbrev cJ3_checkIndex_8e157 : ByteArray := prog_26_method_11_code
def yJ3_checkIndex_8e157 : MethodName := ⟨RJ3, "checkIndex", "(IILjava/util/function/BiFunction;)I"⟩
def RL : String := "ResinWoodsLaw"
abbrev cL_law : ByteArray := code
def yL_law : MethodName := ⟨RL, "law", "([I)Z"⟩
def wsX0_init : List Cond := .code yX0_init cX0_init 2 none :: ([.methodLink RX0 3 objectInit, .instanceMethod objectInit, .code objectInit ⟨#[0xb1]⟩ 1 none, .fieldLink RX0 9 "ResinWoods$Barrel" "has" "I", .arrayClass .int, .fieldLink RX0 15 "ResinWoods$Barrel" "ofGrade" "[I", .fieldLink RX0 19 "ResinWoods$Barrel" "ofTree" "[I", .fieldLink RX0 22 "ResinWoods$Barrel" "isStilled" "Z", .fieldLink RX0 26 "ResinWoods$Barrel" "isPaid" "Z", .fieldLink RX0 29 "ResinWoods$Barrel" "wood" "LResinWoods$Wood;"] ++ wsX00)
def wsX0_gradeOf : List Cond := .code yX0_gradeOf cX0_gradeOf 3 (some .int) :: ([.fieldLink RX0 15 "ResinWoods$Barrel" "ofGrade" "[I", .fieldLink RX0 9 "ResinWoods$Barrel" "has" "I"] ++ wsX00)
def wsX0_isGone : List Cond := .code yX0_isGone cX0_isGone 1 (some .boolean) :: ([.fieldLink RX0 22 "ResinWoods$Barrel" "isStilled" "Z", .fieldLink RX0 26 "ResinWoods$Barrel" "isPaid" "Z"] ++ wsX00)
def wsX0_isFull : List Cond := .code yX0_isFull cX0_isFull 1 (some .boolean) :: ([.fieldLink RX0 9 "ResinWoods$Barrel" "has" "I", .methodLink RX0 46 yX0_isGone, .instanceMethod yX0_isGone, .selects RX0 yX0_isGone yX0_isGone, .initialized RX0, .code yX0_isGone cX0_isGone 1 (some .boolean), .fieldLink RX0 22 "ResinWoods$Barrel" "isStilled" "Z", .fieldLink RX0 26 "ResinWoods$Barrel" "isPaid" "Z"] ++ wsX00)
def wsX0_tell : List Cond := .code yX0_tell cX0_tell 2 (some .int) :: ([.fieldLink RX0 9 "ResinWoods$Barrel" "has" "I", .fieldLink RX0 15 "ResinWoods$Barrel" "ofGrade" "[I", .fieldLink RX0 29 "ResinWoods$Barrel" "wood" "LResinWoods$Wood;", .fieldLink RX0 37 "ResinWoods$Wood" "number" "I", .fieldLink RX0 22 "ResinWoods$Barrel" "isStilled" "Z", .fieldLink RX0 26 "ResinWoods$Barrel" "isPaid" "Z", .methodLink RX0 33 yX0_gradeOf, .instanceMethod yX0_gradeOf, .selects RX0 yX0_gradeOf yX0_gradeOf, .initialized RX0, .code yX0_gradeOf cX0_gradeOf 3 (some .int), .methodLink RX0 42 yX0_isFull, .instanceMethod yX0_isFull, .selects RX0 yX0_isFull yX0_isFull, .code yX0_isFull cX0_isFull 1 (some .boolean), .methodLink RX0 46 yX0_isGone, .instanceMethod yX0_isGone, .selects RX0 yX0_isGone yX0_isGone, .code yX0_isGone cX0_isGone 1 (some .boolean)] ++ wsX00 ++ wsX50)
def wsX0_room : List Cond := .code yX0_room cX0_room 1 (some .int) :: ([.fieldLink RX0 9 "ResinWoods$Barrel" "has" "I"] ++ wsX00)
def wsX0_fill : List Cond := .code yX0_fill cX0_fill 5 (some .int) :: ([.methodLink RX0 52 Lib.Math.min.name, .static Lib.Math.min.name, .initialized "java/lang/Math", .code Lib.Math.min.name Lib.Math.min.code 2 (some .int), .fieldLink RX0 9 "ResinWoods$Barrel" "has" "I", .fieldLink RX0 15 "ResinWoods$Barrel" "ofGrade" "[I", .fieldLink RX0 19 "ResinWoods$Barrel" "ofTree" "[I", .methodLink RX0 49 yX0_room, .instanceMethod yX0_room, .selects RX0 yX0_room yX0_room, .initialized RX0, .code yX0_room cX0_room 1 (some .int)] ++ wsX00)
def wsX0_spiritOf : List Cond := .code yX0_spiritOf cX0_spiritOf 1 (some .int) :: ([.fieldLink RX0 9 "ResinWoods$Barrel" "has" "I"] ++ wsX00)
def wsX0_rosinOf : List Cond := .code yX0_rosinOf cX0_rosinOf 1 (some .int) :: ([.fieldLink RX0 9 "ResinWoods$Barrel" "has" "I", .methodLink RX0 52 Lib.Math.min.name, .static Lib.Math.min.name, .initialized "java/lang/Math", .code Lib.Math.min.name Lib.Math.min.code 2 (some .int), .methodLink RX0 33 yX0_gradeOf, .instanceMethod yX0_gradeOf, .selects RX0 yX0_gradeOf yX0_gradeOf, .initialized RX0, .code yX0_gradeOf cX0_gradeOf 3 (some .int), .fieldLink RX0 15 "ResinWoods$Barrel" "ofGrade" "[I"] ++ wsX00)
def wsX1_init : List Cond := .code yX1_init cX1_init 1 none :: ([.methodLink RX1 3 objectInit, .instanceMethod objectInit, .code objectInit ⟨#[0xb1]⟩ 1 none, .fieldLink RX1 9 "ResinWoods$Face" "streaks" "I", .fieldLink RX1 15 "ResinWoods$Face" "latest" "I", .fieldLink RX1 18 "ResinWoods$Face" "openedIn" "I", .fieldLink RX1 21 "ResinWoods$Face" "has" "I", .fieldLink RX1 24 "ResinWoods$Face" "ranOver" "I", .arrayClass .int, .fieldLink RX1 27 "ResinWoods$Face" "ofGrade" "[I"] ++ wsX10)
def wsX1_tell : List Cond := .code yX1_tell cX1_tell 2 (some .int) :: ([.fieldLink RX1 9 "ResinWoods$Face" "streaks" "I", .fieldLink RX1 15 "ResinWoods$Face" "latest" "I", .fieldLink RX1 18 "ResinWoods$Face" "openedIn" "I", .fieldLink RX1 21 "ResinWoods$Face" "has" "I", .fieldLink RX1 27 "ResinWoods$Face" "ofGrade" "[I", .fieldLink RX1 24 "ResinWoods$Face" "ranOver" "I"] ++ wsX10)
def wsX1_mayBeCutOn : List Cond := .code yX1_mayBeCutOn cX1_mayBeCutOn 2 (some .boolean) :: ([.fieldLink RX1 9 "ResinWoods$Face" "streaks" "I", .fieldLink RX1 15 "ResinWoods$Face" "latest" "I"] ++ wsX10)
def wsX1_strengthOn : List Cond := .code yX1_strengthOn cX1_strengthOn 3 (some .int) :: ([.fieldLink RX1 15 "ResinWoods$Face" "latest" "I"] ++ wsX10)
def wsX6_yearOf : List Cond := .code yX6_yearOf cX6_yearOf 1 (some .int) :: ([])
def wsX1_gradeOn : List Cond := .code yX1_gradeOn cX1_gradeOn 2 (some .int) :: ([.fieldLink RX1 18 "ResinWoods$Face" "openedIn" "I", .methodLink RX1 60 Lib.Math.min.name, .static Lib.Math.min.name, .initialized "java/lang/Math", .code Lib.Math.min.name Lib.Math.min.code 2 (some .int), .methodLink RX1 65 Lib.Math.max.name, .static Lib.Math.max.name, .code Lib.Math.max.name Lib.Math.max.code 2 (some .int), .static yX6_yearOf, .initialized RX6, .code yX6_yearOf cX6_yearOf 1 (some .int)] ++ wsX10)
def wsX1_catchInCup : List Cond := .code yX1_catchInCup cX1_catchInCup 4 (some .int) :: ([.fieldLink RX1 21 "ResinWoods$Face" "has" "I", .methodLink RX1 60 Lib.Math.min.name, .static Lib.Math.min.name, .initialized "java/lang/Math", .code Lib.Math.min.name Lib.Math.min.code 2 (some .int), .fieldLink RX1 27 "ResinWoods$Face" "ofGrade" "[I", .fieldLink RX1 24 "ResinWoods$Face" "ranOver" "I"] ++ wsX10)
def wsX1_washBy : List Cond := .code yX1_washBy cX1_washBy 5 (some .int) :: ([.fieldLink RX1 27 "ResinWoods$Face" "ofGrade" "[I", .fieldLink RX1 21 "ResinWoods$Face" "has" "I"] ++ wsX10)
def wsX1_endDay_r1 : List Cond := [Cond.fieldLink RX1 35 "ResinWoods$Tally" "ran" "I", Cond.fieldLink RX1 40 "ResinWoods$Tally" "ranOver" "I", Cond.fieldLink RX1 21 "ResinWoods$Face" "has" "I", Cond.fieldLink RX1 48 "ResinWoods$Tally" "washed" "I", Cond.methodLink RX1 31 yX1_strengthOn, Cond.instanceMethod yX1_strengthOn, Cond.selects RX1 yX1_strengthOn yX1_strengthOn, Cond.initialized RX1, Cond.code yX1_strengthOn cX1_strengthOn 3 (some .int), Cond.fieldLink RX1 15 "ResinWoods$Face" "latest" "I", Cond.methodLink RX1 41 yX1_gradeOn, Cond.instanceMethod yX1_gradeOn, Cond.selects RX1 yX1_gradeOn yX1_gradeOn, Cond.code yX1_gradeOn cX1_gradeOn 2 (some .int), Cond.fieldLink RX1 18 "ResinWoods$Face" "openedIn" "I", Cond.methodLink RX1 60 Lib.Math.min.name, Cond.static Lib.Math.min.name, Cond.initialized "java/lang/Math", Cond.code Lib.Math.min.name Lib.Math.min.code 2 (some .int), Cond.methodLink RX1 65 Lib.Math.max.name, Cond.static Lib.Math.max.name, Cond.code Lib.Math.max.name Lib.Math.max.code 2 (some .int), Cond.static yX6_yearOf, Cond.initialized RX6]
def wsX1_endDay_r2 : List Cond := [Cond.code yX6_yearOf cX6_yearOf 1 (some .int), Cond.methodLink RX1 44 yX1_catchInCup, Cond.instanceMethod yX1_catchInCup, Cond.selects RX1 yX1_catchInCup yX1_catchInCup, Cond.code yX1_catchInCup cX1_catchInCup 4 (some .int), Cond.fieldLink RX1 27 "ResinWoods$Face" "ofGrade" "[I", Cond.fieldLink RX1 24 "ResinWoods$Face" "ranOver" "I", Cond.methodLink RX1 51 yX1_washBy, Cond.instanceMethod yX1_washBy, Cond.selects RX1 yX1_washBy yX1_washBy, Cond.code yX1_washBy cX1_washBy 5 (some .int)]
def wsX1_endDay : List Cond := .code yX1_endDay cX1_endDay 6 none :: ((wsX1_endDay_r1 ++ wsX1_endDay_r2) ++ wsX30 ++ wsX10)
def wsX1_clearCup : List Cond := .code yX1_clearCup cX1_clearCup 2 none :: ([.fieldLink RX1 21 "ResinWoods$Face" "has" "I", .fieldLink RX1 27 "ResinWoods$Face" "ofGrade" "[I"] ++ wsX10)
def wsX1_standInFor : List Cond := .code yX1_standInFor cX1_standInFor 3 none :: ([.fieldLink RX1 15 "ResinWoods$Face" "latest" "I", .fieldLink RX1 18 "ResinWoods$Face" "openedIn" "I", .fieldLink RX1 21 "ResinWoods$Face" "has" "I", .fieldLink RX1 24 "ResinWoods$Face" "ranOver" "I", .fieldLink RX1 27 "ResinWoods$Face" "ofGrade" "[I"] ++ wsX10)
def wsX3_init : List Cond := .code yX3_init cX3_init 1 none :: ([.methodLink RX3 1 objectInit, .instanceMethod objectInit, .code objectInit ⟨#[0xb1]⟩ 1 none, .fieldLink RX3 7 "ResinWoods$Tally" "ran" "I", .fieldLink RX3 13 "ResinWoods$Tally" "ranOver" "I", .fieldLink RX3 16 "ResinWoods$Tally" "washed" "I"] ++ wsX30)
def wsX2_init_r1 : List Cond := [Cond.methodLink RX2 3 objectInit, Cond.instanceMethod objectInit, Cond.code objectInit ⟨#[0xb1]⟩ 1 none, Cond.fieldLink RX2 9 "ResinWoods$Planner" "size" "I", Cond.arrayClass .int, Cond.fieldLink RX2 15 "ResinWoods$Planner" "numbers" "[I", Cond.fieldLink RX2 19 "ResinWoods$Planner" "places" "[I", Cond.classLink RX2 22 "[[I", Cond.fieldLink RX2 24 "ResinWoods$Planner" "spills" "[[I", Cond.fieldLink RX2 27 "ResinWoods$Planner" "order" "[I", Cond.fieldLink RX2 30 "ResinWoods$Planner" "best" "[I", Cond.arrayClass .boolean, Cond.fieldLink RX2 33 "ResinWoods$Planner" "isVisited" "[Z", Cond.classLink RX2 37 RX1, Cond.instantiable RX1 6, Cond.initialized RX1, Cond.fieldLink RX2 40 "ResinWoods$Planner" "cup" "LResinWoods$Face;", Cond.classLink RX2 44 RX3, Cond.instantiable RX3 3, Cond.initialized RX3, Cond.fieldLink RX2 47 "ResinWoods$Planner" "unread" "LResinWoods$Tally;", Cond.fieldLink RX2 51 "ResinWoods$Planner" "hasBest" "Z", Cond.fieldLink RX2 55 "ResinWoods$Planner" "bestOver" "I", Cond.fieldLink RX2 58 "ResinWoods$Planner" "bestSteps" "I"]
def wsX2_init_r2 : List Cond := [Cond.instanceMethod yX1_init, Cond.code yX1_init cX1_init 1 none, Cond.methodLink RX1 3 objectInit, Cond.fieldLink RX1 9 "ResinWoods$Face" "streaks" "I", Cond.fieldLink RX1 15 "ResinWoods$Face" "latest" "I", Cond.fieldLink RX1 18 "ResinWoods$Face" "openedIn" "I", Cond.fieldLink RX1 21 "ResinWoods$Face" "has" "I", Cond.fieldLink RX1 24 "ResinWoods$Face" "ranOver" "I", Cond.fieldLink RX1 27 "ResinWoods$Face" "ofGrade" "[I", Cond.instanceMethod yX3_init, Cond.code yX3_init cX3_init 1 none, Cond.methodLink RX3 1 objectInit, Cond.fieldLink RX3 7 "ResinWoods$Tally" "ran" "I", Cond.fieldLink RX3 13 "ResinWoods$Tally" "ranOver" "I", Cond.fieldLink RX3 16 "ResinWoods$Tally" "washed" "I"]
def wsX2_init : List Cond := .code yX2_init cX2_init 1 none :: ((wsX2_init_r1 ++ wsX2_init_r2) ++ wsX20 ++ wsX10 ++ wsX30)
def wsX2_begin : List Cond := .code yX2_begin cX2_begin 1 none :: ([.fieldLink RX2 9 "ResinWoods$Planner" "size" "I", .fieldLink RX2 51 "ResinWoods$Planner" "hasBest" "Z"] ++ wsX20)
def wsX2_join : List Cond := .code yX2_join cX2_join 4 (some .int) :: ([.fieldLink RX2 9 "ResinWoods$Planner" "size" "I", .methodLink RX2 61 Lib.Math.min.name, .static Lib.Math.min.name, .initialized "java/lang/Math", .code Lib.Math.min.name Lib.Math.min.code 2 (some .int), .fieldLink RX2 15 "ResinWoods$Planner" "numbers" "[I", .fieldLink RX2 67 "ResinWoods$Tree" "number" "I", .fieldLink RX2 19 "ResinWoods$Planner" "places" "[I", .fieldLink RX2 72 "ResinWoods$Tree" "where" "I", .fieldLink RX2 24 "ResinWoods$Planner" "spills" "[[I"] ++ wsX20 ++ wsX40)
def wsX2_beatsBest : List Cond := .code yX2_beatsBest cX2_beatsBest 3 (some .boolean) :: ([.fieldLink RX2 55 "ResinWoods$Planner" "bestOver" "I", .fieldLink RX2 58 "ResinWoods$Planner" "bestSteps" "I"] ++ wsX20)
def wsX2_keepBest : List Cond := .code yX2_keepBest cX2_keepBest 4 none :: ([.fieldLink RX2 51 "ResinWoods$Planner" "hasBest" "Z", .fieldLink RX2 55 "ResinWoods$Planner" "bestOver" "I", .fieldLink RX2 58 "ResinWoods$Planner" "bestSteps" "I", .fieldLink RX2 9 "ResinWoods$Planner" "size" "I", .fieldLink RX2 30 "ResinWoods$Planner" "best" "[I", .fieldLink RX2 27 "ResinWoods$Planner" "order" "[I"] ++ wsX20)
def wsX2_stepsBetween : List Cond := .code yX2_stepsBetween cX2_stepsBetween 2 (some .int) :: ([.methodLink RX2 93 Lib.Math.abs.name, .static Lib.Math.abs.name, .initialized "java/lang/Math", .code Lib.Math.abs.name Lib.Math.abs.code 1 (some .int)])
def wsX2_spilledBy : List Cond := .code yX2_spilledBy cX2_spilledBy 3 (some .int) :: ([.fieldLink RX2 24 "ResinWoods$Planner" "spills" "[[I", .methodLink RX2 61 Lib.Math.min.name, .static Lib.Math.min.name, .initialized "java/lang/Math", .code Lib.Math.min.name Lib.Math.min.code 2 (some .int)] ++ wsX20)
def wsX2_visit_r1 : List Cond := [Cond.fieldLink RX2 51 "ResinWoods$Planner" "hasBest" "Z", Cond.fieldLink RX2 9 "ResinWoods$Planner" "size" "I", Cond.fieldLink RX2 33 "ResinWoods$Planner" "isVisited" "[Z", Cond.fieldLink RX2 19 "ResinWoods$Planner" "places" "[I", Cond.fieldLink RX2 27 "ResinWoods$Planner" "order" "[I", Cond.methodLink RX2 75 yX2_beatsBest, Cond.instanceMethod yX2_beatsBest, Cond.selects RX2 yX2_beatsBest yX2_beatsBest, Cond.initialized RX2, Cond.code yX2_beatsBest cX2_beatsBest 3 (some .boolean), Cond.fieldLink RX2 55 "ResinWoods$Planner" "bestOver" "I", Cond.fieldLink RX2 58 "ResinWoods$Planner" "bestSteps" "I", Cond.methodLink RX2 79 yX2_keepBest, Cond.instanceMethod yX2_keepBest, Cond.selects RX2 yX2_keepBest yX2_keepBest, Cond.code yX2_keepBest cX2_keepBest 4 none, Cond.fieldLink RX2 30 "ResinWoods$Planner" "best" "[I", Cond.methodLink RX2 83 yX2_stepsBetween, Cond.static yX2_stepsBetween, Cond.code yX2_stepsBetween cX2_stepsBetween 2 (some .int), Cond.methodLink RX2 93 Lib.Math.abs.name, Cond.static Lib.Math.abs.name, Cond.initialized "java/lang/Math", Cond.code Lib.Math.abs.name Lib.Math.abs.code 1 (some .int)]
def wsX2_visit_r2 : List Cond := [Cond.methodLink RX2 86 yX2_spilledBy, Cond.instanceMethod yX2_spilledBy, Cond.selects RX2 yX2_spilledBy yX2_spilledBy, Cond.code yX2_spilledBy cX2_spilledBy 3 (some .int), Cond.fieldLink RX2 24 "ResinWoods$Planner" "spills" "[[I", Cond.methodLink RX2 61 Lib.Math.min.name, Cond.static Lib.Math.min.name, Cond.code Lib.Math.min.name Lib.Math.min.code 2 (some .int), Cond.methodLink RX2 89 yX2_visit, Cond.static yX2_visit]
def wsX2_visit : List Cond := .code yX2_visit cX2_visit 7 none :: ((wsX2_visit_r1 ++ wsX2_visit_r2) ++ wsX20)
def wsJxa1e45_init_da8c8 : List Cond := .code yJxa1e45_init_da8c8 cJxa1e45_init_da8c8 1 none :: ([.methodLink RJxa1e45 1 objectInit, .instanceMethod objectInit, .code objectInit ⟨#[0xb1]⟩ 1 none])
def wsJxc12de_init_da8c8 : List Cond := .code yJxc12de_init_da8c8 cJxc12de_init_da8c8 1 none :: ([.fieldLink RJxc12de 7 "java/util/AbstractList" "modCount" "I", .methodLink RJxc12de 1 yJxa1e45_init_da8c8, .instanceMethod yJxa1e45_init_da8c8, .initialized RJxa1e45, .code yJxa1e45_init_da8c8 cJxa1e45_init_da8c8 1 none, .methodLink RJxa1e45 1 objectInit, .instanceMethod objectInit, .code objectInit ⟨#[0xb1]⟩ 1 none] ++ wsJx4a65c0)
def wsJx4a65c_init_da8c8 : List Cond := .code yJx4a65c_init_da8c8 cJx4a65c_init_da8c8 1 none :: ([.fieldLink RJx4a65c 39 "java/util/ArrayList" "DEFAULTCAPACITY_EMPTY_ELEMENTDATA" "[Ljava/lang/Object;", .fieldLink RJx4a65c 9 "java/util/ArrayList" "elementData" "[Ljava/lang/Object;", .methodLink RJx4a65c 1 yJxc12de_init_da8c8, .instanceMethod yJxc12de_init_da8c8, .initialized RJxc12de, .code yJxc12de_init_da8c8 cJxc12de_init_da8c8 1 none, .fieldLink RJxc12de 7 "java/util/AbstractList" "modCount" "I", .methodLink RJxc12de 1 yJxa1e45_init_da8c8, .instanceMethod yJxa1e45_init_da8c8, .initialized RJxa1e45, .code yJxa1e45_init_da8c8 cJxa1e45_init_da8c8 1 none, .methodLink RJxa1e45 1 objectInit, .instanceMethod objectInit, .code objectInit ⟨#[0xb1]⟩ 1 none] ++ wsJx4a65c0)
def wsX4_init_r1 : List Cond := [Cond.methodLink RX4 3 objectInit, Cond.instanceMethod objectInit, Cond.code objectInit ⟨#[0xb1]⟩ 1 none, Cond.classLink RX4 9 RJx4a65c, Cond.instantiable RJx4a65c 3, Cond.initialized RJx4a65c, Cond.fieldLink RX4 12 "ResinWoods$Tree" "faces" "Ljava/util/List;", Cond.fieldLink RX4 18 "ResinWoods$Tree" "isBurnt" "Z", Cond.fieldLink RX4 22 "ResinWoods$Tree" "yearsCut" "I", Cond.fieldLink RX4 26 "ResinWoods$Tree" "number" "I", Cond.fieldLink RX4 29 "ResinWoods$Tree" "wood" "LResinWoods$Wood;", Cond.fieldLink RX4 33 "ResinWoods$Tree" "where" "I", Cond.fieldLink RX4 36 "ResinWoods$Tree" "borne" "I", Cond.methodLink RX4 11 yJx4a65c_init_da8c8, Cond.instanceMethod yJx4a65c_init_da8c8, Cond.code yJx4a65c_init_da8c8 cJx4a65c_init_da8c8 1 none, Cond.fieldLink RJx4a65c 39 "java/util/ArrayList" "DEFAULTCAPACITY_EMPTY_ELEMENTDATA" "[Ljava/lang/Object;", Cond.fieldLink RJx4a65c 9 "java/util/ArrayList" "elementData" "[Ljava/lang/Object;", Cond.methodLink RJx4a65c 1 yJxc12de_init_da8c8, Cond.instanceMethod yJxc12de_init_da8c8, Cond.initialized RJxc12de, Cond.code yJxc12de_init_da8c8 cJxc12de_init_da8c8 1 none, Cond.fieldLink RJxc12de 7 "java/util/AbstractList" "modCount" "I", Cond.methodLink RJxc12de 1 yJxa1e45_init_da8c8]
def wsX4_init_r2 : List Cond := [Cond.instanceMethod yJxa1e45_init_da8c8, Cond.initialized RJxa1e45, Cond.code yJxa1e45_init_da8c8 cJxa1e45_init_da8c8 1 none, Cond.methodLink RJxa1e45 1 objectInit]
def wsX4_init : List Cond := .code yX4_init cX4_init 5 none :: ((wsX4_init_r1 ++ wsX4_init_r2) ++ wsJx4a65c0 ++ wsX40)
def wsJx4a65c_size_8abf5 : List Cond := .code yJx4a65c_size_8abf5 cJx4a65c_size_8abf5 1 (some .int) :: ([.fieldLink RJx4a65c 48 "java/util/ArrayList" "size" "I"] ++ wsJx4a65c0)
def wsJ3_checkIndex_8e157 : List Cond := .code yJ3_checkIndex_8e157 cJ3_checkIndex_8e157 3 (some .int) :: ([])
def wsJ15_checkIndex_7cf53 : List Cond := .code yJ15_checkIndex_7cf53 cJ15_checkIndex_7cf53 2 (some .int) :: ([.methodLink RJ15 105 yJ3_checkIndex_8e157, .static yJ3_checkIndex_8e157, .initialized RJ3, .code yJ3_checkIndex_8e157 cJ3_checkIndex_8e157 3 (some .int)])
def wsJx4a65c_elementData_915e3 : List Cond := .code yJx4a65c_elementData_915e3 cJx4a65c_elementData_915e3 2 (some (.object "java/lang/Object")) :: ([.fieldLink RJx4a65c 9 "java/util/ArrayList" "elementData" "[Ljava/lang/Object;"] ++ wsJx4a65c0)
def wsJx4a65c_get_915e3 : List Cond := .code yJx4a65c_get_915e3 cJx4a65c_get_915e3 2 (some (.object "java/lang/Object")) :: ([.fieldLink RJx4a65c 48 "java/util/ArrayList" "size" "I", .methodLink RJx4a65c 118 yJ15_checkIndex_7cf53, .static yJ15_checkIndex_7cf53, .initialized RJ15, .code yJ15_checkIndex_7cf53 cJ15_checkIndex_7cf53 2 (some .int), .methodLink RJ15 105 yJ3_checkIndex_8e157, .static yJ3_checkIndex_8e157, .initialized RJ3, .code yJ3_checkIndex_8e157 cJ3_checkIndex_8e157 3 (some .int), .methodLink RJx4a65c 123 yJx4a65c_elementData_915e3, .instanceMethod yJx4a65c_elementData_915e3, .selects RJx4a65c yJx4a65c_elementData_915e3 yJx4a65c_elementData_915e3, .initialized RJx4a65c, .code yJx4a65c_elementData_915e3 cJx4a65c_elementData_915e3 2 (some (.object "java/lang/Object")), .fieldLink RJx4a65c 9 "java/util/ArrayList" "elementData" "[Ljava/lang/Object;"] ++ wsJx4a65c0)
def wsX4_faceAt_r1 : List Cond := [Cond.fieldLink RX4 12 "ResinWoods$Tree" "faces" "Ljava/util/List;", Cond.classLink RX4 49 "ResinWoods$Face", Cond.methodLink RX4 39 ⟨"java/util/List", "size", "()I"⟩, Cond.selects RJx4a65c ⟨"java/util/List", "size", "()I"⟩ yJx4a65c_size_8abf5, Cond.instanceMethod yJx4a65c_size_8abf5, Cond.initialized RJx4a65c, Cond.code yJx4a65c_size_8abf5 cJx4a65c_size_8abf5 1 (some .int), Cond.fieldLink RJx4a65c 48 "java/util/ArrayList" "size" "I", Cond.methodLink RX4 45 ⟨"java/util/List", "get", "(I)Ljava/lang/Object;"⟩, Cond.selects RJx4a65c ⟨"java/util/List", "get", "(I)Ljava/lang/Object;"⟩ yJx4a65c_get_915e3, Cond.instanceMethod yJx4a65c_get_915e3, Cond.code yJx4a65c_get_915e3 cJx4a65c_get_915e3 2 (some (.object "java/lang/Object")), Cond.methodLink RJx4a65c 118 yJ15_checkIndex_7cf53, Cond.static yJ15_checkIndex_7cf53, Cond.initialized RJ15, Cond.code yJ15_checkIndex_7cf53 cJ15_checkIndex_7cf53 2 (some .int), Cond.methodLink RJ15 105 yJ3_checkIndex_8e157, Cond.static yJ3_checkIndex_8e157, Cond.initialized RJ3, Cond.code yJ3_checkIndex_8e157 cJ3_checkIndex_8e157 3 (some .int), Cond.methodLink RJx4a65c 123 yJx4a65c_elementData_915e3, Cond.instanceMethod yJx4a65c_elementData_915e3, Cond.selects RJx4a65c yJx4a65c_elementData_915e3 yJx4a65c_elementData_915e3, Cond.code yJx4a65c_elementData_915e3 cJx4a65c_elementData_915e3 2 (some (.object "java/lang/Object"))]
def wsX4_faceAt_r2 : List Cond := [Cond.fieldLink RJx4a65c 9 "java/util/ArrayList" "elementData" "[Ljava/lang/Object;"]
def wsX4_faceAt : List Cond := .code yX4_faceAt cX4_faceAt 2 (some (.object "ResinWoods$Face")) :: ((wsX4_faceAt_r1 ++ wsX4_faceAt_r2) ++ wsX40 ++ wsJx4a65c0)
def wsX4_mayOpen : List Cond := .code yX4_mayOpen cX4_mayOpen 2 (some .boolean) :: ([.fieldLink RX4 12 "ResinWoods$Tree" "faces" "Ljava/util/List;", .fieldLink RX4 36 "ResinWoods$Tree" "borne" "I", .methodLink RX4 39 ⟨"java/util/List", "size", "()I"⟩, .selects RJx4a65c ⟨"java/util/List", "size", "()I"⟩ yJx4a65c_size_8abf5, .instanceMethod yJx4a65c_size_8abf5, .initialized RJx4a65c, .code yJx4a65c_size_8abf5 cJx4a65c_size_8abf5 1 (some .int), .fieldLink RJx4a65c 48 "java/util/ArrayList" "size" "I"] ++ wsX40 ++ wsJx4a65c0)
def wsJ8_hugeLength_7cf53 : List Cond := .code yJ8_hugeLength_7cf53 cJ8_hugeLength_7cf53 3 (some .int) :: ([.constant RJ8 200 (2147483639)])
def wsJ8_newLength_cabcc : List Cond := .code yJ8_newLength_cabcc cJ8_newLength_cabcc 4 (some .int) :: ([.methodLink RJ8 194 Lib.Math.max.name, .static Lib.Math.max.name, .initialized "java/lang/Math", .code Lib.Math.max.name Lib.Math.max.code 2 (some .int), .constant RJ8 200 (2147483639), .methodLink RJ8 201 yJ8_hugeLength_7cf53, .static yJ8_hugeLength_7cf53, .initialized RJ8, .code yJ8_hugeLength_7cf53 cJ8_hugeLength_7cf53 3 (some .int)])
def wsJ7_copyOf_6403c : List Cond := .code yJ7_copyOf_6403c cJ7_copyOf_6403c 4 (some (.array (.object "java/lang/Object"))) :: ([.classLink RJ7 110 "[Ljava/lang/Object;", .classLink RJ7 2 "java/lang/Object", .methodLink RJ7 304 Lib.Math.min.name, .static Lib.Math.min.name, .initialized "java/lang/Math", .code Lib.Math.min.name Lib.Math.min.code 2 (some .int), .methodLink RJ7 150 arraycopyName, .native arraycopyName, .static arraycopyName, .initialized "java/lang/System"])
def wsJ7_copyOf_1904c : List Cond := .code yJ7_copyOf_1904c cJ7_copyOf_1904c 2 (some (.array (.object "java/lang/Object"))) :: ([.methodLink RJ7 86 ⟨"java/lang/Object", "getClass", "()Ljava/lang/Class;"⟩, .selects "[Ljava/lang/Object;" ⟨"java/lang/Object", "getClass", "()Ljava/lang/Class;"⟩ ⟨"java/lang/Object", "getClass", "()Ljava/lang/Class;"⟩, .instanceMethod ⟨"java/lang/Object", "getClass", "()Ljava/lang/Class;"⟩, .native ⟨"java/lang/Object", "getClass", "()Ljava/lang/Class;"⟩, .methodLink RJ7 300 yJ7_copyOf_6403c, .static yJ7_copyOf_6403c, .initialized RJ7, .code yJ7_copyOf_6403c cJ7_copyOf_6403c 4 (some (.array (.object "java/lang/Object"))), .classLink RJ7 110 "[Ljava/lang/Object;", .classLink RJ7 2 "java/lang/Object", .methodLink RJ7 304 Lib.Math.min.name, .static Lib.Math.min.name, .initialized "java/lang/Math", .code Lib.Math.min.name Lib.Math.min.code 2 (some .int), .methodLink RJ7 150 arraycopyName, .native arraycopyName, .static arraycopyName, .initialized "java/lang/System"])
def wsJx4a65c_grow_92f84_r1 : List Cond := [Cond.fieldLink RJx4a65c 9 "java/util/ArrayList" "elementData" "[Ljava/lang/Object;", Cond.fieldLink RJx4a65c 39 "java/util/ArrayList" "DEFAULTCAPACITY_EMPTY_ELEMENTDATA" "[Ljava/lang/Object;", Cond.methodLink RJx4a65c 79 Lib.Math.max.name, Cond.static Lib.Math.max.name, Cond.initialized "java/lang/Math", Cond.code Lib.Math.max.name Lib.Math.max.code 2 (some .int), Cond.classLink RJx4a65c 7 "java/lang/Object", Cond.methodLink RJx4a65c 73 yJ8_newLength_cabcc, Cond.static yJ8_newLength_cabcc, Cond.initialized RJ8, Cond.code yJ8_newLength_cabcc cJ8_newLength_cabcc 4 (some .int), Cond.methodLink RJ8 194 Lib.Math.max.name, Cond.constant RJ8 200 (2147483639), Cond.methodLink RJ8 201 yJ8_hugeLength_7cf53, Cond.static yJ8_hugeLength_7cf53, Cond.code yJ8_hugeLength_7cf53 cJ8_hugeLength_7cf53 3 (some .int), Cond.methodLink RJx4a65c 66 yJ7_copyOf_1904c, Cond.static yJ7_copyOf_1904c, Cond.initialized RJ7, Cond.code yJ7_copyOf_1904c cJ7_copyOf_1904c 2 (some (.array (.object "java/lang/Object"))), Cond.methodLink RJ7 86 ⟨"java/lang/Object", "getClass", "()Ljava/lang/Class;"⟩, Cond.selects "[Ljava/lang/Object;" ⟨"java/lang/Object", "getClass", "()Ljava/lang/Class;"⟩ ⟨"java/lang/Object", "getClass", "()Ljava/lang/Class;"⟩, Cond.instanceMethod ⟨"java/lang/Object", "getClass", "()Ljava/lang/Class;"⟩, Cond.native ⟨"java/lang/Object", "getClass", "()Ljava/lang/Class;"⟩]
def wsJx4a65c_grow_92f84_r2 : List Cond := [Cond.methodLink RJ7 300 yJ7_copyOf_6403c, Cond.static yJ7_copyOf_6403c, Cond.code yJ7_copyOf_6403c cJ7_copyOf_6403c 4 (some (.array (.object "java/lang/Object"))), Cond.classLink RJ7 110 "[Ljava/lang/Object;", Cond.classLink RJ7 2 "java/lang/Object", Cond.methodLink RJ7 304 Lib.Math.min.name, Cond.static Lib.Math.min.name, Cond.code Lib.Math.min.name Lib.Math.min.code 2 (some .int), Cond.methodLink RJ7 150 arraycopyName, Cond.native arraycopyName, Cond.static arraycopyName, Cond.initialized "java/lang/System"]
def wsJx4a65c_grow_92f84 : List Cond := .code yJx4a65c_grow_92f84 cJx4a65c_grow_92f84 4 (some (.array (.object "java/lang/Object"))) :: ((wsJx4a65c_grow_92f84_r1 ++ wsJx4a65c_grow_92f84_r2) ++ wsJx4a65c0)
def wsJx4a65c_grow_d5877_r1 : List Cond := [Cond.fieldLink RJx4a65c 48 "java/util/ArrayList" "size" "I", Cond.methodLink RJx4a65c 69 yJx4a65c_grow_92f84, Cond.instanceMethod yJx4a65c_grow_92f84, Cond.selects RJx4a65c yJx4a65c_grow_92f84 yJx4a65c_grow_92f84, Cond.initialized RJx4a65c, Cond.code yJx4a65c_grow_92f84 cJx4a65c_grow_92f84 4 (some (.array (.object "java/lang/Object"))), Cond.fieldLink RJx4a65c 9 "java/util/ArrayList" "elementData" "[Ljava/lang/Object;", Cond.fieldLink RJx4a65c 39 "java/util/ArrayList" "DEFAULTCAPACITY_EMPTY_ELEMENTDATA" "[Ljava/lang/Object;", Cond.methodLink RJx4a65c 79 Lib.Math.max.name, Cond.static Lib.Math.max.name, Cond.initialized "java/lang/Math", Cond.code Lib.Math.max.name Lib.Math.max.code 2 (some .int), Cond.classLink RJx4a65c 7 "java/lang/Object", Cond.methodLink RJx4a65c 73 yJ8_newLength_cabcc, Cond.static yJ8_newLength_cabcc, Cond.initialized RJ8, Cond.code yJ8_newLength_cabcc cJ8_newLength_cabcc 4 (some .int), Cond.methodLink RJ8 194 Lib.Math.max.name, Cond.constant RJ8 200 (2147483639), Cond.methodLink RJ8 201 yJ8_hugeLength_7cf53, Cond.static yJ8_hugeLength_7cf53, Cond.code yJ8_hugeLength_7cf53 cJ8_hugeLength_7cf53 3 (some .int), Cond.methodLink RJx4a65c 66 yJ7_copyOf_1904c, Cond.static yJ7_copyOf_1904c]
def wsJx4a65c_grow_d5877_r2 : List Cond := [Cond.initialized RJ7, Cond.code yJ7_copyOf_1904c cJ7_copyOf_1904c 2 (some (.array (.object "java/lang/Object"))), Cond.methodLink RJ7 86 ⟨"java/lang/Object", "getClass", "()Ljava/lang/Class;"⟩, Cond.selects "[Ljava/lang/Object;" ⟨"java/lang/Object", "getClass", "()Ljava/lang/Class;"⟩ ⟨"java/lang/Object", "getClass", "()Ljava/lang/Class;"⟩, Cond.instanceMethod ⟨"java/lang/Object", "getClass", "()Ljava/lang/Class;"⟩, Cond.native ⟨"java/lang/Object", "getClass", "()Ljava/lang/Class;"⟩, Cond.methodLink RJ7 300 yJ7_copyOf_6403c, Cond.static yJ7_copyOf_6403c, Cond.code yJ7_copyOf_6403c cJ7_copyOf_6403c 4 (some (.array (.object "java/lang/Object"))), Cond.classLink RJ7 110 "[Ljava/lang/Object;", Cond.classLink RJ7 2 "java/lang/Object", Cond.methodLink RJ7 304 Lib.Math.min.name, Cond.static Lib.Math.min.name, Cond.code Lib.Math.min.name Lib.Math.min.code 2 (some .int), Cond.methodLink RJ7 150 arraycopyName, Cond.native arraycopyName, Cond.static arraycopyName, Cond.initialized "java/lang/System"]
def wsJx4a65c_grow_d5877 : List Cond := .code yJx4a65c_grow_d5877 cJx4a65c_grow_d5877 1 (some (.array (.object "java/lang/Object"))) :: ((wsJx4a65c_grow_d5877_r1 ++ wsJx4a65c_grow_d5877_r2) ++ wsJx4a65c0)
def wsJx4a65c_add_72be8_r1 : List Cond := [Cond.fieldLink RJx4a65c 48 "java/util/ArrayList" "size" "I", Cond.methodLink RJx4a65c 129 yJx4a65c_grow_d5877, Cond.instanceMethod yJx4a65c_grow_d5877, Cond.selects RJx4a65c yJx4a65c_grow_d5877 yJx4a65c_grow_d5877, Cond.initialized RJx4a65c, Cond.code yJx4a65c_grow_d5877 cJx4a65c_grow_d5877 1 (some (.array (.object "java/lang/Object"))), Cond.methodLink RJx4a65c 69 yJx4a65c_grow_92f84, Cond.instanceMethod yJx4a65c_grow_92f84, Cond.selects RJx4a65c yJx4a65c_grow_92f84 yJx4a65c_grow_92f84, Cond.code yJx4a65c_grow_92f84 cJx4a65c_grow_92f84 4 (some (.array (.object "java/lang/Object"))), Cond.fieldLink RJx4a65c 9 "java/util/ArrayList" "elementData" "[Ljava/lang/Object;", Cond.fieldLink RJx4a65c 39 "java/util/ArrayList" "DEFAULTCAPACITY_EMPTY_ELEMENTDATA" "[Ljava/lang/Object;", Cond.methodLink RJx4a65c 79 Lib.Math.max.name, Cond.static Lib.Math.max.name, Cond.initialized "java/lang/Math", Cond.code Lib.Math.max.name Lib.Math.max.code 2 (some .int), Cond.classLink RJx4a65c 7 "java/lang/Object", Cond.methodLink RJx4a65c 73 yJ8_newLength_cabcc, Cond.static yJ8_newLength_cabcc, Cond.initialized RJ8, Cond.code yJ8_newLength_cabcc cJ8_newLength_cabcc 4 (some .int), Cond.methodLink RJ8 194 Lib.Math.max.name, Cond.constant RJ8 200 (2147483639), Cond.methodLink RJ8 201 yJ8_hugeLength_7cf53]
def wsJx4a65c_add_72be8_r2 : List Cond := [Cond.static yJ8_hugeLength_7cf53, Cond.code yJ8_hugeLength_7cf53 cJ8_hugeLength_7cf53 3 (some .int), Cond.methodLink RJx4a65c 66 yJ7_copyOf_1904c, Cond.static yJ7_copyOf_1904c, Cond.initialized RJ7, Cond.code yJ7_copyOf_1904c cJ7_copyOf_1904c 2 (some (.array (.object "java/lang/Object"))), Cond.methodLink RJ7 86 ⟨"java/lang/Object", "getClass", "()Ljava/lang/Class;"⟩, Cond.selects "[Ljava/lang/Object;" ⟨"java/lang/Object", "getClass", "()Ljava/lang/Class;"⟩ ⟨"java/lang/Object", "getClass", "()Ljava/lang/Class;"⟩, Cond.instanceMethod ⟨"java/lang/Object", "getClass", "()Ljava/lang/Class;"⟩, Cond.native ⟨"java/lang/Object", "getClass", "()Ljava/lang/Class;"⟩, Cond.methodLink RJ7 300 yJ7_copyOf_6403c, Cond.static yJ7_copyOf_6403c, Cond.code yJ7_copyOf_6403c cJ7_copyOf_6403c 4 (some (.array (.object "java/lang/Object"))), Cond.classLink RJ7 110 "[Ljava/lang/Object;", Cond.classLink RJ7 2 "java/lang/Object", Cond.methodLink RJ7 304 Lib.Math.min.name, Cond.static Lib.Math.min.name, Cond.code Lib.Math.min.name Lib.Math.min.code 2 (some .int), Cond.methodLink RJ7 150 arraycopyName, Cond.native arraycopyName, Cond.static arraycopyName, Cond.initialized "java/lang/System"]
def wsJx4a65c_add_72be8 : List Cond := .code yJx4a65c_add_72be8 cJx4a65c_add_72be8 4 none :: ((wsJx4a65c_add_72be8_r1 ++ wsJx4a65c_add_72be8_r2) ++ wsJx4a65c0)
def wsJx4a65c_add_9ea2d_r1 : List Cond := [Cond.fieldLink RJx4a65c 63 "java/util/ArrayList" "modCount" "I", Cond.sameField "java/util/ArrayList" "java/util/AbstractList" "modCount" "I", Cond.fieldLink RJx4a65c 9 "java/util/ArrayList" "elementData" "[Ljava/lang/Object;", Cond.fieldLink RJx4a65c 48 "java/util/ArrayList" "size" "I", Cond.methodLink RJx4a65c 131 yJx4a65c_add_72be8, Cond.instanceMethod yJx4a65c_add_72be8, Cond.selects RJx4a65c yJx4a65c_add_72be8 yJx4a65c_add_72be8, Cond.initialized RJx4a65c, Cond.code yJx4a65c_add_72be8 cJx4a65c_add_72be8 4 none, Cond.methodLink RJx4a65c 129 yJx4a65c_grow_d5877, Cond.instanceMethod yJx4a65c_grow_d5877, Cond.selects RJx4a65c yJx4a65c_grow_d5877 yJx4a65c_grow_d5877, Cond.code yJx4a65c_grow_d5877 cJx4a65c_grow_d5877 1 (some (.array (.object "java/lang/Object"))), Cond.methodLink RJx4a65c 69 yJx4a65c_grow_92f84, Cond.instanceMethod yJx4a65c_grow_92f84, Cond.selects RJx4a65c yJx4a65c_grow_92f84 yJx4a65c_grow_92f84, Cond.code yJx4a65c_grow_92f84 cJx4a65c_grow_92f84 4 (some (.array (.object "java/lang/Object"))), Cond.fieldLink RJx4a65c 39 "java/util/ArrayList" "DEFAULTCAPACITY_EMPTY_ELEMENTDATA" "[Ljava/lang/Object;", Cond.methodLink RJx4a65c 79 Lib.Math.max.name, Cond.static Lib.Math.max.name, Cond.initialized "java/lang/Math", Cond.code Lib.Math.max.name Lib.Math.max.code 2 (some .int), Cond.classLink RJx4a65c 7 "java/lang/Object", Cond.methodLink RJx4a65c 73 yJ8_newLength_cabcc]
def wsJx4a65c_add_9ea2d_r2 : List Cond := [Cond.static yJ8_newLength_cabcc, Cond.initialized RJ8, Cond.code yJ8_newLength_cabcc cJ8_newLength_cabcc 4 (some .int), Cond.methodLink RJ8 194 Lib.Math.max.name, Cond.constant RJ8 200 (2147483639), Cond.methodLink RJ8 201 yJ8_hugeLength_7cf53, Cond.static yJ8_hugeLength_7cf53, Cond.code yJ8_hugeLength_7cf53 cJ8_hugeLength_7cf53 3 (some .int), Cond.methodLink RJx4a65c 66 yJ7_copyOf_1904c, Cond.static yJ7_copyOf_1904c, Cond.initialized RJ7, Cond.code yJ7_copyOf_1904c cJ7_copyOf_1904c 2 (some (.array (.object "java/lang/Object"))), Cond.methodLink RJ7 86 ⟨"java/lang/Object", "getClass", "()Ljava/lang/Class;"⟩, Cond.selects "[Ljava/lang/Object;" ⟨"java/lang/Object", "getClass", "()Ljava/lang/Class;"⟩ ⟨"java/lang/Object", "getClass", "()Ljava/lang/Class;"⟩, Cond.instanceMethod ⟨"java/lang/Object", "getClass", "()Ljava/lang/Class;"⟩, Cond.native ⟨"java/lang/Object", "getClass", "()Ljava/lang/Class;"⟩, Cond.methodLink RJ7 300 yJ7_copyOf_6403c, Cond.static yJ7_copyOf_6403c, Cond.code yJ7_copyOf_6403c cJ7_copyOf_6403c 4 (some (.array (.object "java/lang/Object"))), Cond.classLink RJ7 110 "[Ljava/lang/Object;", Cond.classLink RJ7 2 "java/lang/Object", Cond.methodLink RJ7 304 Lib.Math.min.name, Cond.static Lib.Math.min.name, Cond.code Lib.Math.min.name Lib.Math.min.code 2 (some .int)]
def wsJx4a65c_add_9ea2d_r3 : List Cond := [Cond.methodLink RJ7 150 arraycopyName, Cond.native arraycopyName, Cond.static arraycopyName, Cond.initialized "java/lang/System"]
def wsJx4a65c_add_9ea2d : List Cond := .code yJx4a65c_add_9ea2d cJx4a65c_add_9ea2d 2 (some .boolean) :: ((wsJx4a65c_add_9ea2d_r1 ++ (wsJx4a65c_add_9ea2d_r2 ++ wsJx4a65c_add_9ea2d_r3)) ++ wsJx4a65c0)
def wsX4_openFace_r1 : List Cond := [Cond.classLink RX4 49 RX1, Cond.instantiable RX1 6, Cond.initialized RX1, Cond.fieldLink RX4 56 "ResinWoods$Face" "openedIn" "I", Cond.fieldLink RX4 12 "ResinWoods$Tree" "faces" "Ljava/util/List;", Cond.instanceMethod yX1_init, Cond.code yX1_init cX1_init 1 none, Cond.methodLink RX1 3 objectInit, Cond.instanceMethod objectInit, Cond.code objectInit ⟨#[0xb1]⟩ 1 none, Cond.fieldLink RX1 9 "ResinWoods$Face" "streaks" "I", Cond.fieldLink RX1 15 "ResinWoods$Face" "latest" "I", Cond.fieldLink RX1 18 "ResinWoods$Face" "openedIn" "I", Cond.fieldLink RX1 21 "ResinWoods$Face" "has" "I", Cond.fieldLink RX1 24 "ResinWoods$Face" "ranOver" "I", Cond.arrayClass .int, Cond.fieldLink RX1 27 "ResinWoods$Face" "ofGrade" "[I", Cond.static yX6_yearOf, Cond.initialized RX6, Cond.code yX6_yearOf cX6_yearOf 1 (some .int), Cond.methodLink RX4 59 ⟨"java/util/List", "add", "(Ljava/lang/Object;)Z"⟩, Cond.selects RJx4a65c ⟨"java/util/List", "add", "(Ljava/lang/Object;)Z"⟩ yJx4a65c_add_9ea2d, Cond.instanceMethod yJx4a65c_add_9ea2d, Cond.initialized RJx4a65c]
def wsX4_openFace_r2 : List Cond := [Cond.code yJx4a65c_add_9ea2d cJx4a65c_add_9ea2d 2 (some .boolean), Cond.fieldLink RJx4a65c 63 "java/util/ArrayList" "modCount" "I", Cond.sameField "java/util/ArrayList" "java/util/AbstractList" "modCount" "I", Cond.fieldLink RJx4a65c 9 "java/util/ArrayList" "elementData" "[Ljava/lang/Object;", Cond.fieldLink RJx4a65c 48 "java/util/ArrayList" "size" "I", Cond.methodLink RJx4a65c 131 yJx4a65c_add_72be8, Cond.instanceMethod yJx4a65c_add_72be8, Cond.selects RJx4a65c yJx4a65c_add_72be8 yJx4a65c_add_72be8, Cond.code yJx4a65c_add_72be8 cJx4a65c_add_72be8 4 none, Cond.methodLink RJx4a65c 129 yJx4a65c_grow_d5877, Cond.instanceMethod yJx4a65c_grow_d5877, Cond.selects RJx4a65c yJx4a65c_grow_d5877 yJx4a65c_grow_d5877, Cond.code yJx4a65c_grow_d5877 cJx4a65c_grow_d5877 1 (some (.array (.object "java/lang/Object"))), Cond.methodLink RJx4a65c 69 yJx4a65c_grow_92f84, Cond.instanceMethod yJx4a65c_grow_92f84, Cond.selects RJx4a65c yJx4a65c_grow_92f84 yJx4a65c_grow_92f84, Cond.code yJx4a65c_grow_92f84 cJx4a65c_grow_92f84 4 (some (.array (.object "java/lang/Object"))), Cond.fieldLink RJx4a65c 39 "java/util/ArrayList" "DEFAULTCAPACITY_EMPTY_ELEMENTDATA" "[Ljava/lang/Object;", Cond.methodLink RJx4a65c 79 Lib.Math.max.name, Cond.static Lib.Math.max.name, Cond.initialized "java/lang/Math", Cond.code Lib.Math.max.name Lib.Math.max.code 2 (some .int), Cond.classLink RJx4a65c 7 "java/lang/Object", Cond.methodLink RJx4a65c 73 yJ8_newLength_cabcc]
def wsX4_openFace_r3 : List Cond := [Cond.static yJ8_newLength_cabcc, Cond.initialized RJ8, Cond.code yJ8_newLength_cabcc cJ8_newLength_cabcc 4 (some .int), Cond.methodLink RJ8 194 Lib.Math.max.name, Cond.constant RJ8 200 (2147483639), Cond.methodLink RJ8 201 yJ8_hugeLength_7cf53, Cond.static yJ8_hugeLength_7cf53, Cond.code yJ8_hugeLength_7cf53 cJ8_hugeLength_7cf53 3 (some .int), Cond.methodLink RJx4a65c 66 yJ7_copyOf_1904c, Cond.static yJ7_copyOf_1904c, Cond.initialized RJ7, Cond.code yJ7_copyOf_1904c cJ7_copyOf_1904c 2 (some (.array (.object "java/lang/Object"))), Cond.methodLink RJ7 86 ⟨"java/lang/Object", "getClass", "()Ljava/lang/Class;"⟩, Cond.selects "[Ljava/lang/Object;" ⟨"java/lang/Object", "getClass", "()Ljava/lang/Class;"⟩ ⟨"java/lang/Object", "getClass", "()Ljava/lang/Class;"⟩, Cond.instanceMethod ⟨"java/lang/Object", "getClass", "()Ljava/lang/Class;"⟩, Cond.native ⟨"java/lang/Object", "getClass", "()Ljava/lang/Class;"⟩, Cond.methodLink RJ7 300 yJ7_copyOf_6403c, Cond.static yJ7_copyOf_6403c, Cond.code yJ7_copyOf_6403c cJ7_copyOf_6403c 4 (some (.array (.object "java/lang/Object"))), Cond.classLink RJ7 110 "[Ljava/lang/Object;", Cond.classLink RJ7 2 "java/lang/Object", Cond.methodLink RJ7 304 Lib.Math.min.name, Cond.static Lib.Math.min.name, Cond.code Lib.Math.min.name Lib.Math.min.code 2 (some .int)]
def wsX4_openFace_r4 : List Cond := [Cond.methodLink RJ7 150 arraycopyName, Cond.native arraycopyName, Cond.static arraycopyName, Cond.initialized "java/lang/System"]
def wsX4_openFace : List Cond := .code yX4_openFace cX4_openFace 3 (some (.object "ResinWoods$Face")) :: ((wsX4_openFace_r1 ++ (wsX4_openFace_r2 ++ (wsX4_openFace_r3 ++ wsX4_openFace_r4))) ++ wsX10 ++ wsX40 ++ wsJx4a65c0)
def wsX4_streakOn : List Cond := .code yX4_streakOn cX4_streakOn 3 (some .int) :: ([.fieldLink RX4 63 "ResinWoods$Face" "streaks" "I", .fieldLink RX4 66 "ResinWoods$Face" "latest" "I", .fieldLink RX4 22 "ResinWoods$Tree" "yearsCut" "I", .static yX6_yearOf, .initialized RX6, .code yX6_yearOf cX6_yearOf 1 (some .int)] ++ wsX10 ++ wsX40)
def wsX4_restsIn : List Cond := .code yX4_restsIn cX4_restsIn 3 (some .boolean) :: ([.fieldLink RX4 22 "ResinWoods$Tree" "yearsCut" "I"] ++ wsX40)
def wsX4_inCups_r1 : List Cond := [Cond.fieldLink RX4 12 "ResinWoods$Tree" "faces" "Ljava/util/List;", Cond.classLink RX4 49 "ResinWoods$Face", Cond.fieldLink RX4 69 "ResinWoods$Face" "has" "I", Cond.methodLink RX4 39 ⟨"java/util/List", "size", "()I"⟩, Cond.selects RJx4a65c ⟨"java/util/List", "size", "()I"⟩ yJx4a65c_size_8abf5, Cond.instanceMethod yJx4a65c_size_8abf5, Cond.initialized RJx4a65c, Cond.code yJx4a65c_size_8abf5 cJx4a65c_size_8abf5 1 (some .int), Cond.fieldLink RJx4a65c 48 "java/util/ArrayList" "size" "I", Cond.methodLink RX4 45 ⟨"java/util/List", "get", "(I)Ljava/lang/Object;"⟩, Cond.selects RJx4a65c ⟨"java/util/List", "get", "(I)Ljava/lang/Object;"⟩ yJx4a65c_get_915e3, Cond.instanceMethod yJx4a65c_get_915e3, Cond.code yJx4a65c_get_915e3 cJx4a65c_get_915e3 2 (some (.object "java/lang/Object")), Cond.methodLink RJx4a65c 118 yJ15_checkIndex_7cf53, Cond.static yJ15_checkIndex_7cf53, Cond.initialized RJ15, Cond.code yJ15_checkIndex_7cf53 cJ15_checkIndex_7cf53 2 (some .int), Cond.methodLink RJ15 105 yJ3_checkIndex_8e157, Cond.static yJ3_checkIndex_8e157, Cond.initialized RJ3, Cond.code yJ3_checkIndex_8e157 cJ3_checkIndex_8e157 3 (some .int), Cond.methodLink RJx4a65c 123 yJx4a65c_elementData_915e3, Cond.instanceMethod yJx4a65c_elementData_915e3, Cond.selects RJx4a65c yJx4a65c_elementData_915e3 yJx4a65c_elementData_915e3]
def wsX4_inCups_r2 : List Cond := [Cond.code yJx4a65c_elementData_915e3 cJx4a65c_elementData_915e3 2 (some (.object "java/lang/Object")), Cond.fieldLink RJx4a65c 9 "java/util/ArrayList" "elementData" "[Ljava/lang/Object;"]
def wsX4_inCups : List Cond := .code yX4_inCups cX4_inCups 3 (some .int) :: ((wsX4_inCups_r1 ++ wsX4_inCups_r2) ++ wsX40 ++ wsX10 ++ wsJx4a65c0)
def wsX4_takeFire_r1 : List Cond := [Cond.fieldLink RX4 18 "ResinWoods$Tree" "isBurnt" "Z", Cond.fieldLink RX4 12 "ResinWoods$Tree" "faces" "Ljava/util/List;", Cond.classLink RX4 49 "ResinWoods$Face", Cond.methodLink RX4 72 yX4_inCups, Cond.instanceMethod yX4_inCups, Cond.selects RX4 yX4_inCups yX4_inCups, Cond.initialized RX4, Cond.code yX4_inCups cX4_inCups 3 (some .int), Cond.fieldLink RX4 69 "ResinWoods$Face" "has" "I", Cond.methodLink RX4 39 ⟨"java/util/List", "size", "()I"⟩, Cond.selects RJx4a65c ⟨"java/util/List", "size", "()I"⟩ yJx4a65c_size_8abf5, Cond.instanceMethod yJx4a65c_size_8abf5, Cond.initialized RJx4a65c, Cond.code yJx4a65c_size_8abf5 cJx4a65c_size_8abf5 1 (some .int), Cond.fieldLink RJx4a65c 48 "java/util/ArrayList" "size" "I", Cond.methodLink RX4 45 ⟨"java/util/List", "get", "(I)Ljava/lang/Object;"⟩, Cond.selects RJx4a65c ⟨"java/util/List", "get", "(I)Ljava/lang/Object;"⟩ yJx4a65c_get_915e3, Cond.instanceMethod yJx4a65c_get_915e3, Cond.code yJx4a65c_get_915e3 cJx4a65c_get_915e3 2 (some (.object "java/lang/Object")), Cond.methodLink RJx4a65c 118 yJ15_checkIndex_7cf53, Cond.static yJ15_checkIndex_7cf53, Cond.initialized RJ15, Cond.code yJ15_checkIndex_7cf53 cJ15_checkIndex_7cf53 2 (some .int), Cond.methodLink RJ15 105 yJ3_checkIndex_8e157]
def wsX4_takeFire_r2 : List Cond := [Cond.static yJ3_checkIndex_8e157, Cond.initialized RJ3, Cond.code yJ3_checkIndex_8e157 cJ3_checkIndex_8e157 3 (some .int), Cond.methodLink RJx4a65c 123 yJx4a65c_elementData_915e3, Cond.instanceMethod yJx4a65c_elementData_915e3, Cond.selects RJx4a65c yJx4a65c_elementData_915e3 yJx4a65c_elementData_915e3, Cond.code yJx4a65c_elementData_915e3 cJx4a65c_elementData_915e3 2 (some (.object "java/lang/Object")), Cond.fieldLink RJx4a65c 9 "java/util/ArrayList" "elementData" "[Ljava/lang/Object;", Cond.methodLink RX4 75 yX1_clearCup, Cond.instanceMethod yX1_clearCup, Cond.selects RX1 yX1_clearCup yX1_clearCup, Cond.initialized RX1, Cond.code yX1_clearCup cX1_clearCup 2 none, Cond.fieldLink RX1 21 "ResinWoods$Face" "has" "I", Cond.fieldLink RX1 27 "ResinWoods$Face" "ofGrade" "[I"]
def wsX4_takeFire : List Cond := .code yX4_takeFire cX4_takeFire 3 (some .int) :: ((wsX4_takeFire_r1 ++ wsX4_takeFire_r2) ++ wsX40 ++ wsX10 ++ wsJx4a65c0)
def wsX5_init : List Cond := .code yX5_init cX5_init 2 none :: ([.methodLink RX5 1 objectInit, .instanceMethod objectInit, .code objectInit ⟨#[0xb1]⟩ 1 none, .fieldLink RX5 7 "ResinWoods$Wood" "isLet" "Z", .fieldLink RX5 13 "ResinWoods$Wood" "rent" "I", .fieldLink RX5 17 "ResinWoods$Wood" "emptied" "I", .fieldLink RX5 20 "ResinWoods$Wood" "paid" "I", .fieldLink RX5 23 "ResinWoods$Wood" "latest" "LResinWoods$Barrel;", .fieldLink RX5 27 "ResinWoods$Wood" "number" "I"] ++ wsX50)
def wsX5_letFor : List Cond := .code yX5_letFor cX5_letFor 2 none :: ([.fieldLink RX5 7 "ResinWoods$Wood" "isLet" "Z", .fieldLink RX5 13 "ResinWoods$Wood" "rent" "I", .fieldLink RX5 17 "ResinWoods$Wood" "emptied" "I", .fieldLink RX5 20 "ResinWoods$Wood" "paid" "I"] ++ wsX50)
def wsX5_stillDue : List Cond := .code yX5_stillDue cX5_stillDue 1 (some .int) :: ([.fieldLink RX5 7 "ResinWoods$Wood" "isLet" "Z", .fieldLink RX5 17 "ResinWoods$Wood" "emptied" "I", .fieldLink RX5 13 "ResinWoods$Wood" "rent" "I", .fieldLink RX5 20 "ResinWoods$Wood" "paid" "I"] ++ wsX50)
def wsX5_openBarrel : List Cond := .code yX5_openBarrel cX5_openBarrel 1 (some (.object "ResinWoods$Barrel")) :: ([.fieldLink RX5 23 "ResinWoods$Wood" "latest" "LResinWoods$Barrel;", .methodLink RX5 30 yX0_isFull, .instanceMethod yX0_isFull, .selects RX0 yX0_isFull yX0_isFull, .initialized RX0, .code yX0_isFull cX0_isFull 1 (some .boolean), .fieldLink RX0 9 "ResinWoods$Barrel" "has" "I", .methodLink RX0 46 yX0_isGone, .instanceMethod yX0_isGone, .selects RX0 yX0_isGone yX0_isGone, .code yX0_isGone cX0_isGone 1 (some .boolean), .fieldLink RX0 22 "ResinWoods$Barrel" "isStilled" "Z", .fieldLink RX0 26 "ResinWoods$Barrel" "isPaid" "Z"] ++ wsX50 ++ wsX00)
def wsX6_init_r1 : List Cond := [Cond.methodLink RX6 3 objectInit, Cond.instanceMethod objectInit, Cond.code objectInit ⟨#[0xb1]⟩ 1 none, Cond.arrayClass .byte, Cond.fieldLink RX6 9 "ResinWoods" "warmths" "[B", Cond.fieldLink RX6 13 "ResinWoods" "rains" "[B", Cond.classLink RX6 16 RX5, Cond.fieldLink RX6 18 "ResinWoods" "woods" "[LResinWoods$Wood;", Cond.classLink RX6 22 RJx4a65c, Cond.instantiable RJx4a65c 3, Cond.initialized RJx4a65c, Cond.fieldLink RX6 25 "ResinWoods" "trees" "Ljava/util/List;", Cond.fieldLink RX6 29 "ResinWoods" "barrels" "Ljava/util/List;", Cond.classLink RX6 32 RX3, Cond.instantiable RX3 3, Cond.initialized RX3, Cond.fieldLink RX6 35 "ResinWoods" "tally" "LResinWoods$Tally;", Cond.classLink RX6 39 RX2, Cond.instantiable RX2 12, Cond.initialized RX2, Cond.fieldLink RX6 42 "ResinWoods" "planner" "LResinWoods$Planner;", Cond.fieldLink RX6 46 "ResinWoods" "now" "I", Cond.fieldLink RX6 50 "ResinWoods" "emptied" "I", Cond.fieldLink RX6 53 "ResinWoods" "burnt" "I"]
def wsX6_init_r2 : List Cond := [Cond.fieldLink RX6 56 "ResinWoods" "spirit" "I", Cond.fieldLink RX6 59 "ResinWoods" "rosin" "I", Cond.instantiable RX5 6, Cond.initialized RX5, Cond.methodLink RX6 24 yJx4a65c_init_da8c8, Cond.instanceMethod yJx4a65c_init_da8c8, Cond.code yJx4a65c_init_da8c8 cJx4a65c_init_da8c8 1 none, Cond.fieldLink RJx4a65c 39 "java/util/ArrayList" "DEFAULTCAPACITY_EMPTY_ELEMENTDATA" "[Ljava/lang/Object;", Cond.fieldLink RJx4a65c 9 "java/util/ArrayList" "elementData" "[Ljava/lang/Object;", Cond.methodLink RJx4a65c 1 yJxc12de_init_da8c8, Cond.instanceMethod yJxc12de_init_da8c8, Cond.initialized RJxc12de, Cond.code yJxc12de_init_da8c8 cJxc12de_init_da8c8 1 none, Cond.fieldLink RJxc12de 7 "java/util/AbstractList" "modCount" "I", Cond.methodLink RJxc12de 1 yJxa1e45_init_da8c8, Cond.instanceMethod yJxa1e45_init_da8c8, Cond.initialized RJxa1e45, Cond.code yJxa1e45_init_da8c8 cJxa1e45_init_da8c8 1 none, Cond.methodLink RJxa1e45 1 objectInit, Cond.instanceMethod yX3_init, Cond.code yX3_init cX3_init 1 none, Cond.methodLink RX3 1 objectInit, Cond.fieldLink RX3 7 "ResinWoods$Tally" "ran" "I", Cond.fieldLink RX3 13 "ResinWoods$Tally" "ranOver" "I"]
def wsX6_init_r3 : List Cond := [Cond.fieldLink RX3 16 "ResinWoods$Tally" "washed" "I", Cond.instanceMethod yX2_init, Cond.code yX2_init cX2_init 1 none, Cond.methodLink RX2 3 objectInit, Cond.fieldLink RX2 9 "ResinWoods$Planner" "size" "I", Cond.arrayClass .int, Cond.fieldLink RX2 15 "ResinWoods$Planner" "numbers" "[I", Cond.fieldLink RX2 19 "ResinWoods$Planner" "places" "[I", Cond.classLink RX2 22 "[[I", Cond.fieldLink RX2 24 "ResinWoods$Planner" "spills" "[[I", Cond.fieldLink RX2 27 "ResinWoods$Planner" "order" "[I", Cond.fieldLink RX2 30 "ResinWoods$Planner" "best" "[I", Cond.arrayClass .boolean, Cond.fieldLink RX2 33 "ResinWoods$Planner" "isVisited" "[Z", Cond.classLink RX2 37 RX1, Cond.instantiable RX1 6, Cond.initialized RX1, Cond.fieldLink RX2 40 "ResinWoods$Planner" "cup" "LResinWoods$Face;", Cond.classLink RX2 44 RX3, Cond.fieldLink RX2 47 "ResinWoods$Planner" "unread" "LResinWoods$Tally;", Cond.fieldLink RX2 51 "ResinWoods$Planner" "hasBest" "Z", Cond.fieldLink RX2 55 "ResinWoods$Planner" "bestOver" "I", Cond.fieldLink RX2 58 "ResinWoods$Planner" "bestSteps" "I", Cond.instanceMethod yX1_init]
def wsX6_init_r4 : List Cond := [Cond.code yX1_init cX1_init 1 none, Cond.methodLink RX1 3 objectInit, Cond.fieldLink RX1 9 "ResinWoods$Face" "streaks" "I", Cond.fieldLink RX1 15 "ResinWoods$Face" "latest" "I", Cond.fieldLink RX1 18 "ResinWoods$Face" "openedIn" "I", Cond.fieldLink RX1 21 "ResinWoods$Face" "has" "I", Cond.fieldLink RX1 24 "ResinWoods$Face" "ranOver" "I", Cond.fieldLink RX1 27 "ResinWoods$Face" "ofGrade" "[I", Cond.methodLink RX6 62 yX5_init, Cond.instanceMethod yX5_init, Cond.code yX5_init cX5_init 2 none, Cond.methodLink RX5 1 objectInit, Cond.fieldLink RX5 7 "ResinWoods$Wood" "isLet" "Z", Cond.fieldLink RX5 13 "ResinWoods$Wood" "rent" "I", Cond.fieldLink RX5 17 "ResinWoods$Wood" "emptied" "I", Cond.fieldLink RX5 20 "ResinWoods$Wood" "paid" "I", Cond.fieldLink RX5 23 "ResinWoods$Wood" "latest" "LResinWoods$Barrel;", Cond.fieldLink RX5 27 "ResinWoods$Wood" "number" "I"]
def wsX6_init : List Cond := .code yX6_init cX6_init 2 none :: ((wsX6_init_r1 ++ (wsX6_init_r2 ++ (wsX6_init_r3 ++ wsX6_init_r4))) ++ wsX60 ++ wsJx4a65c0 ++ wsX30 ++ wsX20 ++ wsX50 ++ wsX10)
def wsX6_woodAt : List Cond := .code yX6_woodAt cX6_woodAt 2 (some (.object "ResinWoods$Wood")) :: ([.fieldLink RX6 18 "ResinWoods" "woods" "[LResinWoods$Wood;"] ++ wsX60)
def wsX6_isPlace : List Cond := .code yX6_isPlace cX6_isPlace 1 (some .boolean) :: ([])
def wsX6_isGirth : List Cond := .code yX6_isGirth cX6_isGirth 1 (some .boolean) :: ([])
def wsX6_facesBorneBy : List Cond := .code yX6_facesBorneBy cX6_facesBorneBy 1 (some .int) :: ([])
def wsX6_tree_r1 : List Cond := [Cond.fieldLink RX6 25 "ResinWoods" "trees" "Ljava/util/List;", Cond.classLink RX6 82 RX4, Cond.instantiable RX4 7, Cond.initialized RX4, Cond.methodLink RX6 65 yX6_woodAt, Cond.instanceMethod yX6_woodAt, Cond.selects RX6 yX6_woodAt yX6_woodAt, Cond.initialized RX6, Cond.code yX6_woodAt cX6_woodAt 2 (some (.object "ResinWoods$Wood")), Cond.fieldLink RX6 18 "ResinWoods" "woods" "[LResinWoods$Wood;", Cond.methodLink RX6 69 yX6_isPlace, Cond.static yX6_isPlace, Cond.code yX6_isPlace cX6_isPlace 1 (some .boolean), Cond.methodLink RX6 73 yX6_isGirth, Cond.static yX6_isGirth, Cond.code yX6_isGirth cX6_isGirth 1 (some .boolean), Cond.methodLink RX6 76 ⟨"java/util/List", "size", "()I"⟩, Cond.selects RJx4a65c ⟨"java/util/List", "size", "()I"⟩ yJx4a65c_size_8abf5, Cond.instanceMethod yJx4a65c_size_8abf5, Cond.initialized RJx4a65c, Cond.code yJx4a65c_size_8abf5 cJx4a65c_size_8abf5 1 (some .int), Cond.fieldLink RJx4a65c 48 "java/util/ArrayList" "size" "I", Cond.methodLink RX6 84 yX6_facesBorneBy, Cond.static yX6_facesBorneBy]
def wsX6_tree_r2 : List Cond := [Cond.code yX6_facesBorneBy cX6_facesBorneBy 1 (some .int), Cond.methodLink RX6 88 yX4_init, Cond.instanceMethod yX4_init, Cond.code yX4_init cX4_init 5 none, Cond.methodLink RX4 3 objectInit, Cond.instanceMethod objectInit, Cond.code objectInit ⟨#[0xb1]⟩ 1 none, Cond.classLink RX4 9 RJx4a65c, Cond.instantiable RJx4a65c 3, Cond.fieldLink RX4 12 "ResinWoods$Tree" "faces" "Ljava/util/List;", Cond.fieldLink RX4 18 "ResinWoods$Tree" "isBurnt" "Z", Cond.fieldLink RX4 22 "ResinWoods$Tree" "yearsCut" "I", Cond.fieldLink RX4 26 "ResinWoods$Tree" "number" "I", Cond.fieldLink RX4 29 "ResinWoods$Tree" "wood" "LResinWoods$Wood;", Cond.fieldLink RX4 33 "ResinWoods$Tree" "where" "I", Cond.fieldLink RX4 36 "ResinWoods$Tree" "borne" "I", Cond.methodLink RX4 11 yJx4a65c_init_da8c8, Cond.instanceMethod yJx4a65c_init_da8c8, Cond.code yJx4a65c_init_da8c8 cJx4a65c_init_da8c8 1 none, Cond.fieldLink RJx4a65c 39 "java/util/ArrayList" "DEFAULTCAPACITY_EMPTY_ELEMENTDATA" "[Ljava/lang/Object;", Cond.fieldLink RJx4a65c 9 "java/util/ArrayList" "elementData" "[Ljava/lang/Object;", Cond.methodLink RJx4a65c 1 yJxc12de_init_da8c8, Cond.instanceMethod yJxc12de_init_da8c8, Cond.initialized RJxc12de]
def wsX6_tree_r3 : List Cond := [Cond.code yJxc12de_init_da8c8 cJxc12de_init_da8c8 1 none, Cond.fieldLink RJxc12de 7 "java/util/AbstractList" "modCount" "I", Cond.methodLink RJxc12de 1 yJxa1e45_init_da8c8, Cond.instanceMethod yJxa1e45_init_da8c8, Cond.initialized RJxa1e45, Cond.code yJxa1e45_init_da8c8 cJxa1e45_init_da8c8 1 none, Cond.methodLink RJxa1e45 1 objectInit, Cond.methodLink RX6 91 ⟨"java/util/List", "add", "(Ljava/lang/Object;)Z"⟩, Cond.selects RJx4a65c ⟨"java/util/List", "add", "(Ljava/lang/Object;)Z"⟩ yJx4a65c_add_9ea2d, Cond.instanceMethod yJx4a65c_add_9ea2d, Cond.code yJx4a65c_add_9ea2d cJx4a65c_add_9ea2d 2 (some .boolean), Cond.fieldLink RJx4a65c 63 "java/util/ArrayList" "modCount" "I", Cond.sameField "java/util/ArrayList" "java/util/AbstractList" "modCount" "I", Cond.methodLink RJx4a65c 131 yJx4a65c_add_72be8, Cond.instanceMethod yJx4a65c_add_72be8, Cond.selects RJx4a65c yJx4a65c_add_72be8 yJx4a65c_add_72be8, Cond.code yJx4a65c_add_72be8 cJx4a65c_add_72be8 4 none, Cond.methodLink RJx4a65c 129 yJx4a65c_grow_d5877, Cond.instanceMethod yJx4a65c_grow_d5877, Cond.selects RJx4a65c yJx4a65c_grow_d5877 yJx4a65c_grow_d5877, Cond.code yJx4a65c_grow_d5877 cJx4a65c_grow_d5877 1 (some (.array (.object "java/lang/Object"))), Cond.methodLink RJx4a65c 69 yJx4a65c_grow_92f84, Cond.instanceMethod yJx4a65c_grow_92f84, Cond.selects RJx4a65c yJx4a65c_grow_92f84 yJx4a65c_grow_92f84]
def wsX6_tree_r4 : List Cond := [Cond.code yJx4a65c_grow_92f84 cJx4a65c_grow_92f84 4 (some (.array (.object "java/lang/Object"))), Cond.methodLink RJx4a65c 79 Lib.Math.max.name, Cond.static Lib.Math.max.name, Cond.initialized "java/lang/Math", Cond.code Lib.Math.max.name Lib.Math.max.code 2 (some .int), Cond.classLink RJx4a65c 7 "java/lang/Object", Cond.methodLink RJx4a65c 73 yJ8_newLength_cabcc, Cond.static yJ8_newLength_cabcc, Cond.initialized RJ8, Cond.code yJ8_newLength_cabcc cJ8_newLength_cabcc 4 (some .int), Cond.methodLink RJ8 194 Lib.Math.max.name, Cond.constant RJ8 200 (2147483639), Cond.methodLink RJ8 201 yJ8_hugeLength_7cf53, Cond.static yJ8_hugeLength_7cf53, Cond.code yJ8_hugeLength_7cf53 cJ8_hugeLength_7cf53 3 (some .int), Cond.methodLink RJx4a65c 66 yJ7_copyOf_1904c, Cond.static yJ7_copyOf_1904c, Cond.initialized RJ7, Cond.code yJ7_copyOf_1904c cJ7_copyOf_1904c 2 (some (.array (.object "java/lang/Object"))), Cond.methodLink RJ7 86 ⟨"java/lang/Object", "getClass", "()Ljava/lang/Class;"⟩, Cond.selects "[Ljava/lang/Object;" ⟨"java/lang/Object", "getClass", "()Ljava/lang/Class;"⟩ ⟨"java/lang/Object", "getClass", "()Ljava/lang/Class;"⟩, Cond.instanceMethod ⟨"java/lang/Object", "getClass", "()Ljava/lang/Class;"⟩, Cond.native ⟨"java/lang/Object", "getClass", "()Ljava/lang/Class;"⟩, Cond.methodLink RJ7 300 yJ7_copyOf_6403c]
def wsX6_tree_r5 : List Cond := [Cond.static yJ7_copyOf_6403c, Cond.code yJ7_copyOf_6403c cJ7_copyOf_6403c 4 (some (.array (.object "java/lang/Object"))), Cond.classLink RJ7 110 "[Ljava/lang/Object;", Cond.classLink RJ7 2 "java/lang/Object", Cond.methodLink RJ7 304 Lib.Math.min.name, Cond.static Lib.Math.min.name, Cond.code Lib.Math.min.name Lib.Math.min.code 2 (some .int), Cond.methodLink RJ7 150 arraycopyName, Cond.native arraycopyName, Cond.static arraycopyName, Cond.initialized "java/lang/System"]
def wsX6_tree : List Cond := .code yX6_tree cX6_tree 5 (some .int) :: ((wsX6_tree_r1 ++ (wsX6_tree_r2 ++ (wsX6_tree_r3 ++ (wsX6_tree_r4 ++ wsX6_tree_r5)))) ++ wsX60 ++ wsX40 ++ wsJx4a65c0)
def wsX6_bears : List Cond := .code yX6_bears cX6_bears 2 (some .int) :: ([.methodLink RX6 73 yX6_isGirth, .static yX6_isGirth, .initialized RX6, .code yX6_isGirth cX6_isGirth 1 (some .boolean), .methodLink RX6 84 yX6_facesBorneBy, .static yX6_facesBorneBy, .code yX6_facesBorneBy cX6_facesBorneBy 1 (some .int)])
def wsX6_isWeather : List Cond := .code yX6_isWeather cX6_isWeather 1 (some .boolean) :: ([])
def wsX6_weather : List Cond := .code yX6_weather cX6_weather 6 (some .boolean) :: ([.fieldLink RX6 46 "ResinWoods" "now" "I", .fieldLink RX6 9 "ResinWoods" "warmths" "[B", .fieldLink RX6 13 "ResinWoods" "rains" "[B", .methodLink RX6 95 yX6_isWeather, .static yX6_isWeather, .initialized RX6, .code yX6_isWeather cX6_isWeather 1 (some .boolean)] ++ wsX60)
def wsX6_treeAt_r1 : List Cond := [Cond.fieldLink RX6 25 "ResinWoods" "trees" "Ljava/util/List;", Cond.classLink RX6 82 "ResinWoods$Tree", Cond.methodLink RX6 76 ⟨"java/util/List", "size", "()I"⟩, Cond.selects RJx4a65c ⟨"java/util/List", "size", "()I"⟩ yJx4a65c_size_8abf5, Cond.instanceMethod yJx4a65c_size_8abf5, Cond.initialized RJx4a65c, Cond.code yJx4a65c_size_8abf5 cJx4a65c_size_8abf5 1 (some .int), Cond.fieldLink RJx4a65c 48 "java/util/ArrayList" "size" "I", Cond.methodLink RX6 157 ⟨"java/util/List", "get", "(I)Ljava/lang/Object;"⟩, Cond.selects RJx4a65c ⟨"java/util/List", "get", "(I)Ljava/lang/Object;"⟩ yJx4a65c_get_915e3, Cond.instanceMethod yJx4a65c_get_915e3, Cond.code yJx4a65c_get_915e3 cJx4a65c_get_915e3 2 (some (.object "java/lang/Object")), Cond.methodLink RJx4a65c 118 yJ15_checkIndex_7cf53, Cond.static yJ15_checkIndex_7cf53, Cond.initialized RJ15, Cond.code yJ15_checkIndex_7cf53 cJ15_checkIndex_7cf53 2 (some .int), Cond.methodLink RJ15 105 yJ3_checkIndex_8e157, Cond.static yJ3_checkIndex_8e157, Cond.initialized RJ3, Cond.code yJ3_checkIndex_8e157 cJ3_checkIndex_8e157 3 (some .int), Cond.methodLink RJx4a65c 123 yJx4a65c_elementData_915e3, Cond.instanceMethod yJx4a65c_elementData_915e3, Cond.selects RJx4a65c yJx4a65c_elementData_915e3 yJx4a65c_elementData_915e3, Cond.code yJx4a65c_elementData_915e3 cJx4a65c_elementData_915e3 2 (some (.object "java/lang/Object"))]
def wsX6_treeAt_r2 : List Cond := [Cond.fieldLink RJx4a65c 9 "java/util/ArrayList" "elementData" "[Ljava/lang/Object;"]
def wsX6_treeAt : List Cond := .code yX6_treeAt cX6_treeAt 2 (some (.object "ResinWoods$Tree")) :: ((wsX6_treeAt_r1 ++ wsX6_treeAt_r2) ++ wsX60 ++ wsJx4a65c0)
def wsX6_cut_r1 : List Cond := [Cond.fieldLink RX6 102 "ResinWoods$Tree" "isBurnt" "Z", Cond.fieldLink RX6 46 "ResinWoods" "now" "I", Cond.methodLink RX6 98 yX6_treeAt, Cond.instanceMethod yX6_treeAt, Cond.selects RX6 yX6_treeAt yX6_treeAt, Cond.initialized RX6, Cond.code yX6_treeAt cX6_treeAt 2 (some (.object "ResinWoods$Tree")), Cond.fieldLink RX6 25 "ResinWoods" "trees" "Ljava/util/List;", Cond.classLink RX6 82 "ResinWoods$Tree", Cond.methodLink RX6 76 ⟨"java/util/List", "size", "()I"⟩, Cond.selects RJx4a65c ⟨"java/util/List", "size", "()I"⟩ yJx4a65c_size_8abf5, Cond.instanceMethod yJx4a65c_size_8abf5, Cond.initialized RJx4a65c, Cond.code yJx4a65c_size_8abf5 cJx4a65c_size_8abf5 1 (some .int), Cond.fieldLink RJx4a65c 48 "java/util/ArrayList" "size" "I", Cond.methodLink RX6 157 ⟨"java/util/List", "get", "(I)Ljava/lang/Object;"⟩, Cond.selects RJx4a65c ⟨"java/util/List", "get", "(I)Ljava/lang/Object;"⟩ yJx4a65c_get_915e3, Cond.instanceMethod yJx4a65c_get_915e3, Cond.code yJx4a65c_get_915e3 cJx4a65c_get_915e3 2 (some (.object "java/lang/Object")), Cond.methodLink RJx4a65c 118 yJ15_checkIndex_7cf53, Cond.static yJ15_checkIndex_7cf53, Cond.initialized RJ15, Cond.code yJ15_checkIndex_7cf53 cJ15_checkIndex_7cf53 2 (some .int), Cond.methodLink RJ15 105 yJ3_checkIndex_8e157]
def wsX6_cut_r2 : List Cond := [Cond.static yJ3_checkIndex_8e157, Cond.initialized RJ3, Cond.code yJ3_checkIndex_8e157 cJ3_checkIndex_8e157 3 (some .int), Cond.methodLink RJx4a65c 123 yJx4a65c_elementData_915e3, Cond.instanceMethod yJx4a65c_elementData_915e3, Cond.selects RJx4a65c yJx4a65c_elementData_915e3 yJx4a65c_elementData_915e3, Cond.code yJx4a65c_elementData_915e3 cJx4a65c_elementData_915e3 2 (some (.object "java/lang/Object")), Cond.fieldLink RJx4a65c 9 "java/util/ArrayList" "elementData" "[Ljava/lang/Object;", Cond.methodLink RX6 106 yX6_yearOf, Cond.static yX6_yearOf, Cond.code yX6_yearOf cX6_yearOf 1 (some .int), Cond.methodLink RX6 109 yX4_restsIn, Cond.instanceMethod yX4_restsIn, Cond.selects RX4 yX4_restsIn yX4_restsIn, Cond.initialized RX4, Cond.code yX4_restsIn cX4_restsIn 3 (some .boolean), Cond.fieldLink RX4 22 "ResinWoods$Tree" "yearsCut" "I", Cond.methodLink RX6 112 yX4_faceAt, Cond.instanceMethod yX4_faceAt, Cond.selects RX4 yX4_faceAt yX4_faceAt, Cond.code yX4_faceAt cX4_faceAt 2 (some (.object "ResinWoods$Face")), Cond.fieldLink RX4 12 "ResinWoods$Tree" "faces" "Ljava/util/List;", Cond.classLink RX4 49 "ResinWoods$Face", Cond.methodLink RX4 39 ⟨"java/util/List", "size", "()I"⟩]
def wsX6_cut_r3 : List Cond := [Cond.methodLink RX4 45 ⟨"java/util/List", "get", "(I)Ljava/lang/Object;"⟩, Cond.methodLink RX6 116 yX1_mayBeCutOn, Cond.instanceMethod yX1_mayBeCutOn, Cond.selects RX1 yX1_mayBeCutOn yX1_mayBeCutOn, Cond.initialized RX1, Cond.code yX1_mayBeCutOn cX1_mayBeCutOn 2 (some .boolean), Cond.fieldLink RX1 9 "ResinWoods$Face" "streaks" "I", Cond.fieldLink RX1 15 "ResinWoods$Face" "latest" "I", Cond.methodLink RX6 121 yX4_streakOn, Cond.instanceMethod yX4_streakOn, Cond.selects RX4 yX4_streakOn yX4_streakOn, Cond.code yX4_streakOn cX4_streakOn 3 (some .int), Cond.fieldLink RX4 63 "ResinWoods$Face" "streaks" "I", Cond.fieldLink RX4 66 "ResinWoods$Face" "latest" "I", Cond.methodLink RX6 125 yX4_mayOpen, Cond.instanceMethod yX4_mayOpen, Cond.selects RX4 yX4_mayOpen yX4_mayOpen, Cond.code yX4_mayOpen cX4_mayOpen 2 (some .boolean), Cond.fieldLink RX4 36 "ResinWoods$Tree" "borne" "I", Cond.methodLink RX6 128 yX4_openFace, Cond.instanceMethod yX4_openFace, Cond.selects RX4 yX4_openFace yX4_openFace, Cond.code yX4_openFace cX4_openFace 3 (some (.object "ResinWoods$Face")), Cond.classLink RX4 49 RX1]
def wsX6_cut_r4 : List Cond := [Cond.instantiable RX1 6, Cond.fieldLink RX4 56 "ResinWoods$Face" "openedIn" "I", Cond.instanceMethod yX1_init, Cond.code yX1_init cX1_init 1 none, Cond.methodLink RX1 3 objectInit, Cond.instanceMethod objectInit, Cond.code objectInit ⟨#[0xb1]⟩ 1 none, Cond.fieldLink RX1 18 "ResinWoods$Face" "openedIn" "I", Cond.fieldLink RX1 21 "ResinWoods$Face" "has" "I", Cond.fieldLink RX1 24 "ResinWoods$Face" "ranOver" "I", Cond.arrayClass .int, Cond.fieldLink RX1 27 "ResinWoods$Face" "ofGrade" "[I", Cond.methodLink RX4 59 ⟨"java/util/List", "add", "(Ljava/lang/Object;)Z"⟩, Cond.selects RJx4a65c ⟨"java/util/List", "add", "(Ljava/lang/Object;)Z"⟩ yJx4a65c_add_9ea2d, Cond.instanceMethod yJx4a65c_add_9ea2d, Cond.code yJx4a65c_add_9ea2d cJx4a65c_add_9ea2d 2 (some .boolean), Cond.fieldLink RJx4a65c 63 "java/util/ArrayList" "modCount" "I", Cond.sameField "java/util/ArrayList" "java/util/AbstractList" "modCount" "I", Cond.methodLink RJx4a65c 131 yJx4a65c_add_72be8, Cond.instanceMethod yJx4a65c_add_72be8, Cond.selects RJx4a65c yJx4a65c_add_72be8 yJx4a65c_add_72be8, Cond.code yJx4a65c_add_72be8 cJx4a65c_add_72be8 4 none, Cond.methodLink RJx4a65c 129 yJx4a65c_grow_d5877, Cond.instanceMethod yJx4a65c_grow_d5877]
def wsX6_cut_r5 : List Cond := [Cond.selects RJx4a65c yJx4a65c_grow_d5877 yJx4a65c_grow_d5877, Cond.code yJx4a65c_grow_d5877 cJx4a65c_grow_d5877 1 (some (.array (.object "java/lang/Object"))), Cond.methodLink RJx4a65c 69 yJx4a65c_grow_92f84, Cond.instanceMethod yJx4a65c_grow_92f84, Cond.selects RJx4a65c yJx4a65c_grow_92f84 yJx4a65c_grow_92f84, Cond.code yJx4a65c_grow_92f84 cJx4a65c_grow_92f84 4 (some (.array (.object "java/lang/Object"))), Cond.fieldLink RJx4a65c 39 "java/util/ArrayList" "DEFAULTCAPACITY_EMPTY_ELEMENTDATA" "[Ljava/lang/Object;", Cond.methodLink RJx4a65c 79 Lib.Math.max.name, Cond.static Lib.Math.max.name, Cond.initialized "java/lang/Math", Cond.code Lib.Math.max.name Lib.Math.max.code 2 (some .int), Cond.classLink RJx4a65c 7 "java/lang/Object", Cond.methodLink RJx4a65c 73 yJ8_newLength_cabcc, Cond.static yJ8_newLength_cabcc, Cond.initialized RJ8, Cond.code yJ8_newLength_cabcc cJ8_newLength_cabcc 4 (some .int), Cond.methodLink RJ8 194 Lib.Math.max.name, Cond.constant RJ8 200 (2147483639), Cond.methodLink RJ8 201 yJ8_hugeLength_7cf53, Cond.static yJ8_hugeLength_7cf53, Cond.code yJ8_hugeLength_7cf53 cJ8_hugeLength_7cf53 3 (some .int), Cond.methodLink RJx4a65c 66 yJ7_copyOf_1904c, Cond.static yJ7_copyOf_1904c, Cond.initialized RJ7]
def wsX6_cut_r6 : List Cond := [Cond.code yJ7_copyOf_1904c cJ7_copyOf_1904c 2 (some (.array (.object "java/lang/Object"))), Cond.methodLink RJ7 86 ⟨"java/lang/Object", "getClass", "()Ljava/lang/Class;"⟩, Cond.selects "[Ljava/lang/Object;" ⟨"java/lang/Object", "getClass", "()Ljava/lang/Class;"⟩ ⟨"java/lang/Object", "getClass", "()Ljava/lang/Class;"⟩, Cond.instanceMethod ⟨"java/lang/Object", "getClass", "()Ljava/lang/Class;"⟩, Cond.native ⟨"java/lang/Object", "getClass", "()Ljava/lang/Class;"⟩, Cond.methodLink RJ7 300 yJ7_copyOf_6403c, Cond.static yJ7_copyOf_6403c, Cond.code yJ7_copyOf_6403c cJ7_copyOf_6403c 4 (some (.array (.object "java/lang/Object"))), Cond.classLink RJ7 110 "[Ljava/lang/Object;", Cond.classLink RJ7 2 "java/lang/Object", Cond.methodLink RJ7 304 Lib.Math.min.name, Cond.static Lib.Math.min.name, Cond.code Lib.Math.min.name Lib.Math.min.code 2 (some .int), Cond.methodLink RJ7 150 arraycopyName, Cond.native arraycopyName, Cond.static arraycopyName, Cond.initialized "java/lang/System"]
def wsX6_cut : List Cond := .code yX6_cut cX6_cut 5 (some .int) :: ((wsX6_cut_r1 ++ (wsX6_cut_r2 ++ (wsX6_cut_r3 ++ (wsX6_cut_r4 ++ (wsX6_cut_r5 ++ wsX6_cut_r6))))) ++ wsX40 ++ wsX60 ++ wsJx4a65c0 ++ wsX10)
def wsX6_rests_r1 : List Cond := [Cond.fieldLink RX6 46 "ResinWoods" "now" "I", Cond.methodLink RX6 98 yX6_treeAt, Cond.instanceMethod yX6_treeAt, Cond.selects RX6 yX6_treeAt yX6_treeAt, Cond.initialized RX6, Cond.code yX6_treeAt cX6_treeAt 2 (some (.object "ResinWoods$Tree")), Cond.fieldLink RX6 25 "ResinWoods" "trees" "Ljava/util/List;", Cond.classLink RX6 82 "ResinWoods$Tree", Cond.methodLink RX6 76 ⟨"java/util/List", "size", "()I"⟩, Cond.selects RJx4a65c ⟨"java/util/List", "size", "()I"⟩ yJx4a65c_size_8abf5, Cond.instanceMethod yJx4a65c_size_8abf5, Cond.initialized RJx4a65c, Cond.code yJx4a65c_size_8abf5 cJx4a65c_size_8abf5 1 (some .int), Cond.fieldLink RJx4a65c 48 "java/util/ArrayList" "size" "I", Cond.methodLink RX6 157 ⟨"java/util/List", "get", "(I)Ljava/lang/Object;"⟩, Cond.selects RJx4a65c ⟨"java/util/List", "get", "(I)Ljava/lang/Object;"⟩ yJx4a65c_get_915e3, Cond.instanceMethod yJx4a65c_get_915e3, Cond.code yJx4a65c_get_915e3 cJx4a65c_get_915e3 2 (some (.object "java/lang/Object")), Cond.methodLink RJx4a65c 118 yJ15_checkIndex_7cf53, Cond.static yJ15_checkIndex_7cf53, Cond.initialized RJ15, Cond.code yJ15_checkIndex_7cf53 cJ15_checkIndex_7cf53 2 (some .int), Cond.methodLink RJ15 105 yJ3_checkIndex_8e157, Cond.static yJ3_checkIndex_8e157]
def wsX6_rests_r2 : List Cond := [Cond.initialized RJ3, Cond.code yJ3_checkIndex_8e157 cJ3_checkIndex_8e157 3 (some .int), Cond.methodLink RJx4a65c 123 yJx4a65c_elementData_915e3, Cond.instanceMethod yJx4a65c_elementData_915e3, Cond.selects RJx4a65c yJx4a65c_elementData_915e3 yJx4a65c_elementData_915e3, Cond.code yJx4a65c_elementData_915e3 cJx4a65c_elementData_915e3 2 (some (.object "java/lang/Object")), Cond.fieldLink RJx4a65c 9 "java/util/ArrayList" "elementData" "[Ljava/lang/Object;", Cond.methodLink RX6 106 yX6_yearOf, Cond.static yX6_yearOf, Cond.code yX6_yearOf cX6_yearOf 1 (some .int), Cond.methodLink RX6 109 yX4_restsIn, Cond.instanceMethod yX4_restsIn, Cond.selects RX4 yX4_restsIn yX4_restsIn, Cond.initialized RX4, Cond.code yX4_restsIn cX4_restsIn 3 (some .boolean), Cond.fieldLink RX4 22 "ResinWoods$Tree" "yearsCut" "I"]
def wsX6_rests : List Cond := .code yX6_rests cX6_rests 3 (some .boolean) :: ((wsX6_rests_r1 ++ wsX6_rests_r2) ++ wsX60 ++ wsJx4a65c0 ++ wsX40)
def wsX6_endDay_r1 : List Cond := [Cond.fieldLink RX6 25 "ResinWoods" "trees" "Ljava/util/List;", Cond.classLink RX6 82 "ResinWoods$Tree", Cond.fieldLink RX6 102 "ResinWoods$Tree" "isBurnt" "Z", Cond.fieldLink RX6 154 "ResinWoods$Tree" "faces" "Ljava/util/List;", Cond.classLink RX6 117 "ResinWoods$Face", Cond.fieldLink RX6 46 "ResinWoods" "now" "I", Cond.fieldLink RX6 9 "ResinWoods" "warmths" "[B", Cond.fieldLink RX6 13 "ResinWoods" "rains" "[B", Cond.fieldLink RX6 35 "ResinWoods" "tally" "LResinWoods$Tally;", Cond.methodLink RX6 76 ⟨"java/util/List", "size", "()I"⟩, Cond.selects RJx4a65c ⟨"java/util/List", "size", "()I"⟩ yJx4a65c_size_8abf5, Cond.instanceMethod yJx4a65c_size_8abf5, Cond.initialized RJx4a65c, Cond.code yJx4a65c_size_8abf5 cJx4a65c_size_8abf5 1 (some .int), Cond.fieldLink RJx4a65c 48 "java/util/ArrayList" "size" "I", Cond.methodLink RX6 157 ⟨"java/util/List", "get", "(I)Ljava/lang/Object;"⟩, Cond.selects RJx4a65c ⟨"java/util/List", "get", "(I)Ljava/lang/Object;"⟩ yJx4a65c_get_915e3, Cond.instanceMethod yJx4a65c_get_915e3, Cond.code yJx4a65c_get_915e3 cJx4a65c_get_915e3 2 (some (.object "java/lang/Object")), Cond.methodLink RJx4a65c 118 yJ15_checkIndex_7cf53, Cond.static yJ15_checkIndex_7cf53, Cond.initialized RJ15, Cond.code yJ15_checkIndex_7cf53 cJ15_checkIndex_7cf53 2 (some .int), Cond.methodLink RJ15 105 yJ3_checkIndex_8e157]
def wsX6_endDay_r2 : List Cond := [Cond.static yJ3_checkIndex_8e157, Cond.initialized RJ3, Cond.code yJ3_checkIndex_8e157 cJ3_checkIndex_8e157 3 (some .int), Cond.methodLink RJx4a65c 123 yJx4a65c_elementData_915e3, Cond.instanceMethod yJx4a65c_elementData_915e3, Cond.selects RJx4a65c yJx4a65c_elementData_915e3 yJx4a65c_elementData_915e3, Cond.code yJx4a65c_elementData_915e3 cJx4a65c_elementData_915e3 2 (some (.object "java/lang/Object")), Cond.fieldLink RJx4a65c 9 "java/util/ArrayList" "elementData" "[Ljava/lang/Object;", Cond.methodLink RX6 247 yX1_endDay, Cond.instanceMethod yX1_endDay, Cond.selects RX1 yX1_endDay yX1_endDay, Cond.initialized RX1, Cond.code yX1_endDay cX1_endDay 6 none, Cond.fieldLink RX1 35 "ResinWoods$Tally" "ran" "I", Cond.fieldLink RX1 40 "ResinWoods$Tally" "ranOver" "I", Cond.fieldLink RX1 21 "ResinWoods$Face" "has" "I", Cond.fieldLink RX1 48 "ResinWoods$Tally" "washed" "I", Cond.methodLink RX1 31 yX1_strengthOn, Cond.instanceMethod yX1_strengthOn, Cond.selects RX1 yX1_strengthOn yX1_strengthOn, Cond.code yX1_strengthOn cX1_strengthOn 3 (some .int), Cond.fieldLink RX1 15 "ResinWoods$Face" "latest" "I", Cond.methodLink RX1 41 yX1_gradeOn, Cond.instanceMethod yX1_gradeOn]
def wsX6_endDay_r3 : List Cond := [Cond.selects RX1 yX1_gradeOn yX1_gradeOn, Cond.code yX1_gradeOn cX1_gradeOn 2 (some .int), Cond.fieldLink RX1 18 "ResinWoods$Face" "openedIn" "I", Cond.methodLink RX1 60 Lib.Math.min.name, Cond.static Lib.Math.min.name, Cond.initialized "java/lang/Math", Cond.code Lib.Math.min.name Lib.Math.min.code 2 (some .int), Cond.methodLink RX1 65 Lib.Math.max.name, Cond.static Lib.Math.max.name, Cond.code Lib.Math.max.name Lib.Math.max.code 2 (some .int), Cond.static yX6_yearOf, Cond.initialized RX6, Cond.code yX6_yearOf cX6_yearOf 1 (some .int), Cond.methodLink RX1 44 yX1_catchInCup, Cond.instanceMethod yX1_catchInCup, Cond.selects RX1 yX1_catchInCup yX1_catchInCup, Cond.code yX1_catchInCup cX1_catchInCup 4 (some .int), Cond.fieldLink RX1 27 "ResinWoods$Face" "ofGrade" "[I", Cond.fieldLink RX1 24 "ResinWoods$Face" "ranOver" "I", Cond.methodLink RX1 51 yX1_washBy, Cond.instanceMethod yX1_washBy, Cond.selects RX1 yX1_washBy yX1_washBy, Cond.code yX1_washBy cX1_washBy 5 (some .int)]
def wsX6_endDay : List Cond := .code yX6_endDay cX6_endDay 4 none :: ((wsX6_endDay_r1 ++ (wsX6_endDay_r2 ++ wsX6_endDay_r3)) ++ wsX60 ++ wsX40 ++ wsJx4a65c0 ++ wsX30 ++ wsX10)
def wsX6_go_r1 : List Cond := [Cond.fieldLink RX6 46 "ResinWoods" "now" "I", Cond.methodLink RX6 131 Lib.Math.min.name, Cond.static Lib.Math.min.name, Cond.initialized "java/lang/Math", Cond.code Lib.Math.min.name Lib.Math.min.code 2 (some .int), Cond.methodLink RX6 137 yX6_endDay, Cond.instanceMethod yX6_endDay, Cond.selects RX6 yX6_endDay yX6_endDay, Cond.initialized RX6, Cond.code yX6_endDay cX6_endDay 4 none, Cond.fieldLink RX6 25 "ResinWoods" "trees" "Ljava/util/List;", Cond.classLink RX6 82 "ResinWoods$Tree", Cond.fieldLink RX6 102 "ResinWoods$Tree" "isBurnt" "Z", Cond.fieldLink RX6 154 "ResinWoods$Tree" "faces" "Ljava/util/List;", Cond.classLink RX6 117 "ResinWoods$Face", Cond.fieldLink RX6 9 "ResinWoods" "warmths" "[B", Cond.fieldLink RX6 13 "ResinWoods" "rains" "[B", Cond.fieldLink RX6 35 "ResinWoods" "tally" "LResinWoods$Tally;", Cond.methodLink RX6 76 ⟨"java/util/List", "size", "()I"⟩, Cond.selects RJx4a65c ⟨"java/util/List", "size", "()I"⟩ yJx4a65c_size_8abf5, Cond.instanceMethod yJx4a65c_size_8abf5, Cond.initialized RJx4a65c, Cond.code yJx4a65c_size_8abf5 cJx4a65c_size_8abf5 1 (some .int), Cond.fieldLink RJx4a65c 48 "java/util/ArrayList" "size" "I"]
def wsX6_go_r2 : List Cond := [Cond.methodLink RX6 157 ⟨"java/util/List", "get", "(I)Ljava/lang/Object;"⟩, Cond.selects RJx4a65c ⟨"java/util/List", "get", "(I)Ljava/lang/Object;"⟩ yJx4a65c_get_915e3, Cond.instanceMethod yJx4a65c_get_915e3, Cond.code yJx4a65c_get_915e3 cJx4a65c_get_915e3 2 (some (.object "java/lang/Object")), Cond.methodLink RJx4a65c 118 yJ15_checkIndex_7cf53, Cond.static yJ15_checkIndex_7cf53, Cond.initialized RJ15, Cond.code yJ15_checkIndex_7cf53 cJ15_checkIndex_7cf53 2 (some .int), Cond.methodLink RJ15 105 yJ3_checkIndex_8e157, Cond.static yJ3_checkIndex_8e157, Cond.initialized RJ3, Cond.code yJ3_checkIndex_8e157 cJ3_checkIndex_8e157 3 (some .int), Cond.methodLink RJx4a65c 123 yJx4a65c_elementData_915e3, Cond.instanceMethod yJx4a65c_elementData_915e3, Cond.selects RJx4a65c yJx4a65c_elementData_915e3 yJx4a65c_elementData_915e3, Cond.code yJx4a65c_elementData_915e3 cJx4a65c_elementData_915e3 2 (some (.object "java/lang/Object")), Cond.fieldLink RJx4a65c 9 "java/util/ArrayList" "elementData" "[Ljava/lang/Object;", Cond.methodLink RX6 247 yX1_endDay, Cond.instanceMethod yX1_endDay, Cond.selects RX1 yX1_endDay yX1_endDay, Cond.initialized RX1, Cond.code yX1_endDay cX1_endDay 6 none, Cond.fieldLink RX1 35 "ResinWoods$Tally" "ran" "I", Cond.fieldLink RX1 40 "ResinWoods$Tally" "ranOver" "I"]
def wsX6_go_r3 : List Cond := [Cond.fieldLink RX1 21 "ResinWoods$Face" "has" "I", Cond.fieldLink RX1 48 "ResinWoods$Tally" "washed" "I", Cond.methodLink RX1 31 yX1_strengthOn, Cond.instanceMethod yX1_strengthOn, Cond.selects RX1 yX1_strengthOn yX1_strengthOn, Cond.code yX1_strengthOn cX1_strengthOn 3 (some .int), Cond.fieldLink RX1 15 "ResinWoods$Face" "latest" "I", Cond.methodLink RX1 41 yX1_gradeOn, Cond.instanceMethod yX1_gradeOn, Cond.selects RX1 yX1_gradeOn yX1_gradeOn, Cond.code yX1_gradeOn cX1_gradeOn 2 (some .int), Cond.fieldLink RX1 18 "ResinWoods$Face" "openedIn" "I", Cond.methodLink RX1 60 Lib.Math.min.name, Cond.methodLink RX1 65 Lib.Math.max.name, Cond.static Lib.Math.max.name, Cond.code Lib.Math.max.name Lib.Math.max.code 2 (some .int), Cond.static yX6_yearOf, Cond.code yX6_yearOf cX6_yearOf 1 (some .int), Cond.methodLink RX1 44 yX1_catchInCup, Cond.instanceMethod yX1_catchInCup, Cond.selects RX1 yX1_catchInCup yX1_catchInCup, Cond.code yX1_catchInCup cX1_catchInCup 4 (some .int), Cond.fieldLink RX1 27 "ResinWoods$Face" "ofGrade" "[I", Cond.fieldLink RX1 24 "ResinWoods$Face" "ranOver" "I"]
def wsX6_go_r4 : List Cond := [Cond.methodLink RX1 51 yX1_washBy, Cond.instanceMethod yX1_washBy, Cond.selects RX1 yX1_washBy yX1_washBy, Cond.code yX1_washBy cX1_washBy 5 (some .int)]
def wsX6_go : List Cond := .code yX6_go cX6_go 3 (some .int) :: ((wsX6_go_r1 ++ (wsX6_go_r2 ++ (wsX6_go_r3 ++ wsX6_go_r4))) ++ wsX60 ++ wsX40 ++ wsJx4a65c0 ++ wsX30 ++ wsX10)
def wsX6_face_r1 : List Cond := [Cond.methodLink RX6 98 yX6_treeAt, Cond.instanceMethod yX6_treeAt, Cond.selects RX6 yX6_treeAt yX6_treeAt, Cond.initialized RX6, Cond.code yX6_treeAt cX6_treeAt 2 (some (.object "ResinWoods$Tree")), Cond.fieldLink RX6 25 "ResinWoods" "trees" "Ljava/util/List;", Cond.classLink RX6 82 "ResinWoods$Tree", Cond.methodLink RX6 76 ⟨"java/util/List", "size", "()I"⟩, Cond.selects RJx4a65c ⟨"java/util/List", "size", "()I"⟩ yJx4a65c_size_8abf5, Cond.instanceMethod yJx4a65c_size_8abf5, Cond.initialized RJx4a65c, Cond.code yJx4a65c_size_8abf5 cJx4a65c_size_8abf5 1 (some .int), Cond.fieldLink RJx4a65c 48 "java/util/ArrayList" "size" "I", Cond.methodLink RX6 157 ⟨"java/util/List", "get", "(I)Ljava/lang/Object;"⟩, Cond.selects RJx4a65c ⟨"java/util/List", "get", "(I)Ljava/lang/Object;"⟩ yJx4a65c_get_915e3, Cond.instanceMethod yJx4a65c_get_915e3, Cond.code yJx4a65c_get_915e3 cJx4a65c_get_915e3 2 (some (.object "java/lang/Object")), Cond.methodLink RJx4a65c 118 yJ15_checkIndex_7cf53, Cond.static yJ15_checkIndex_7cf53, Cond.initialized RJ15, Cond.code yJ15_checkIndex_7cf53 cJ15_checkIndex_7cf53 2 (some .int), Cond.methodLink RJ15 105 yJ3_checkIndex_8e157, Cond.static yJ3_checkIndex_8e157, Cond.initialized RJ3]
def wsX6_face_r2 : List Cond := [Cond.code yJ3_checkIndex_8e157 cJ3_checkIndex_8e157 3 (some .int), Cond.methodLink RJx4a65c 123 yJx4a65c_elementData_915e3, Cond.instanceMethod yJx4a65c_elementData_915e3, Cond.selects RJx4a65c yJx4a65c_elementData_915e3 yJx4a65c_elementData_915e3, Cond.code yJx4a65c_elementData_915e3 cJx4a65c_elementData_915e3 2 (some (.object "java/lang/Object")), Cond.fieldLink RJx4a65c 9 "java/util/ArrayList" "elementData" "[Ljava/lang/Object;", Cond.methodLink RX6 112 yX4_faceAt, Cond.instanceMethod yX4_faceAt, Cond.selects RX4 yX4_faceAt yX4_faceAt, Cond.initialized RX4, Cond.code yX4_faceAt cX4_faceAt 2 (some (.object "ResinWoods$Face")), Cond.fieldLink RX4 12 "ResinWoods$Tree" "faces" "Ljava/util/List;", Cond.classLink RX4 49 "ResinWoods$Face", Cond.methodLink RX4 39 ⟨"java/util/List", "size", "()I"⟩, Cond.methodLink RX4 45 ⟨"java/util/List", "get", "(I)Ljava/lang/Object;"⟩, Cond.methodLink RX6 140 yX1_tell, Cond.instanceMethod yX1_tell, Cond.selects RX1 yX1_tell yX1_tell, Cond.initialized RX1, Cond.code yX1_tell cX1_tell 2 (some .int), Cond.fieldLink RX1 9 "ResinWoods$Face" "streaks" "I", Cond.fieldLink RX1 15 "ResinWoods$Face" "latest" "I", Cond.fieldLink RX1 18 "ResinWoods$Face" "openedIn" "I", Cond.fieldLink RX1 21 "ResinWoods$Face" "has" "I"]
def wsX6_face_r3 : List Cond := [Cond.fieldLink RX1 27 "ResinWoods$Face" "ofGrade" "[I", Cond.fieldLink RX1 24 "ResinWoods$Face" "ranOver" "I"]
def wsX6_face : List Cond := .code yX6_face cX6_face 6 (some .int) :: ((wsX6_face_r1 ++ (wsX6_face_r2 ++ wsX6_face_r3)) ++ wsX60 ++ wsJx4a65c0 ++ wsX40 ++ wsX10)
def wsX6_newBarrelsFor : List Cond := .code yX6_newBarrelsFor cX6_newBarrelsFor 4 (some .int) :: ([.methodLink RX6 250 yX5_openBarrel, .instanceMethod yX5_openBarrel, .selects RX5 yX5_openBarrel yX5_openBarrel, .initialized RX5, .code yX5_openBarrel cX5_openBarrel 1 (some (.object "ResinWoods$Barrel")), .fieldLink RX5 23 "ResinWoods$Wood" "latest" "LResinWoods$Barrel;", .methodLink RX5 30 yX0_isFull, .instanceMethod yX0_isFull, .selects RX0 yX0_isFull yX0_isFull, .initialized RX0, .code yX0_isFull cX0_isFull 1 (some .boolean), .fieldLink RX0 9 "ResinWoods$Barrel" "has" "I", .methodLink RX0 46 yX0_isGone, .instanceMethod yX0_isGone, .selects RX0 yX0_isGone yX0_isGone, .code yX0_isGone cX0_isGone 1 (some .boolean), .fieldLink RX0 22 "ResinWoods$Barrel" "isStilled" "Z", .fieldLink RX0 26 "ResinWoods$Barrel" "isPaid" "Z", .methodLink RX6 254 yX0_room, .instanceMethod yX0_room, .selects RX0 yX0_room yX0_room, .code yX0_room cX0_room 1 (some .int)] ++ wsX50 ++ wsX00)
def wsX6_pour_r1 : List Cond := [Cond.fieldLink RX6 146 "ResinWoods$Tree" "wood" "LResinWoods$Wood;", Cond.classLink RX6 171 RX0, Cond.instantiable RX0 6, Cond.initialized RX0, Cond.fieldLink RX6 29 "ResinWoods" "barrels" "Ljava/util/List;", Cond.fieldLink RX6 270 "ResinWoods$Wood" "latest" "LResinWoods$Barrel;", Cond.fieldLink RX6 177 "ResinWoods$Tree" "number" "I", Cond.methodLink RX6 250 yX5_openBarrel, Cond.instanceMethod yX5_openBarrel, Cond.selects RX5 yX5_openBarrel yX5_openBarrel, Cond.initialized RX5, Cond.code yX5_openBarrel cX5_openBarrel 1 (some (.object "ResinWoods$Barrel")), Cond.fieldLink RX5 23 "ResinWoods$Wood" "latest" "LResinWoods$Barrel;", Cond.methodLink RX5 30 yX0_isFull, Cond.instanceMethod yX0_isFull, Cond.selects RX0 yX0_isFull yX0_isFull, Cond.code yX0_isFull cX0_isFull 1 (some .boolean), Cond.fieldLink RX0 9 "ResinWoods$Barrel" "has" "I", Cond.methodLink RX0 46 yX0_isGone, Cond.instanceMethod yX0_isGone, Cond.selects RX0 yX0_isGone yX0_isGone, Cond.code yX0_isGone cX0_isGone 1 (some .boolean), Cond.fieldLink RX0 22 "ResinWoods$Barrel" "isStilled" "Z", Cond.fieldLink RX0 26 "ResinWoods$Barrel" "isPaid" "Z"]
def wsX6_pour_r2 : List Cond := [Cond.methodLink RX6 267 yX0_init, Cond.instanceMethod yX0_init, Cond.code yX0_init cX0_init 2 none, Cond.methodLink RX0 3 objectInit, Cond.instanceMethod objectInit, Cond.code objectInit ⟨#[0xb1]⟩ 1 none, Cond.arrayClass .int, Cond.fieldLink RX0 15 "ResinWoods$Barrel" "ofGrade" "[I", Cond.fieldLink RX0 19 "ResinWoods$Barrel" "ofTree" "[I", Cond.fieldLink RX0 29 "ResinWoods$Barrel" "wood" "LResinWoods$Wood;", Cond.methodLink RX6 91 ⟨"java/util/List", "add", "(Ljava/lang/Object;)Z"⟩, Cond.selects RJx4a65c ⟨"java/util/List", "add", "(Ljava/lang/Object;)Z"⟩ yJx4a65c_add_9ea2d, Cond.instanceMethod yJx4a65c_add_9ea2d, Cond.initialized RJx4a65c, Cond.code yJx4a65c_add_9ea2d cJx4a65c_add_9ea2d 2 (some .boolean), Cond.fieldLink RJx4a65c 63 "java/util/ArrayList" "modCount" "I", Cond.sameField "java/util/ArrayList" "java/util/AbstractList" "modCount" "I", Cond.fieldLink RJx4a65c 9 "java/util/ArrayList" "elementData" "[Ljava/lang/Object;", Cond.fieldLink RJx4a65c 48 "java/util/ArrayList" "size" "I", Cond.methodLink RJx4a65c 131 yJx4a65c_add_72be8, Cond.instanceMethod yJx4a65c_add_72be8, Cond.selects RJx4a65c yJx4a65c_add_72be8 yJx4a65c_add_72be8, Cond.code yJx4a65c_add_72be8 cJx4a65c_add_72be8 4 none, Cond.methodLink RJx4a65c 129 yJx4a65c_grow_d5877]
def wsX6_pour_r3 : List Cond := [Cond.instanceMethod yJx4a65c_grow_d5877, Cond.selects RJx4a65c yJx4a65c_grow_d5877 yJx4a65c_grow_d5877, Cond.code yJx4a65c_grow_d5877 cJx4a65c_grow_d5877 1 (some (.array (.object "java/lang/Object"))), Cond.methodLink RJx4a65c 69 yJx4a65c_grow_92f84, Cond.instanceMethod yJx4a65c_grow_92f84, Cond.selects RJx4a65c yJx4a65c_grow_92f84 yJx4a65c_grow_92f84, Cond.code yJx4a65c_grow_92f84 cJx4a65c_grow_92f84 4 (some (.array (.object "java/lang/Object"))), Cond.fieldLink RJx4a65c 39 "java/util/ArrayList" "DEFAULTCAPACITY_EMPTY_ELEMENTDATA" "[Ljava/lang/Object;", Cond.methodLink RJx4a65c 79 Lib.Math.max.name, Cond.static Lib.Math.max.name, Cond.initialized "java/lang/Math", Cond.code Lib.Math.max.name Lib.Math.max.code 2 (some .int), Cond.classLink RJx4a65c 7 "java/lang/Object", Cond.methodLink RJx4a65c 73 yJ8_newLength_cabcc, Cond.static yJ8_newLength_cabcc, Cond.initialized RJ8, Cond.code yJ8_newLength_cabcc cJ8_newLength_cabcc 4 (some .int), Cond.methodLink RJ8 194 Lib.Math.max.name, Cond.constant RJ8 200 (2147483639), Cond.methodLink RJ8 201 yJ8_hugeLength_7cf53, Cond.static yJ8_hugeLength_7cf53, Cond.code yJ8_hugeLength_7cf53 cJ8_hugeLength_7cf53 3 (some .int), Cond.methodLink RJx4a65c 66 yJ7_copyOf_1904c, Cond.static yJ7_copyOf_1904c]
def wsX6_pour_r4 : List Cond := [Cond.initialized RJ7, Cond.code yJ7_copyOf_1904c cJ7_copyOf_1904c 2 (some (.array (.object "java/lang/Object"))), Cond.methodLink RJ7 86 ⟨"java/lang/Object", "getClass", "()Ljava/lang/Class;"⟩, Cond.selects "[Ljava/lang/Object;" ⟨"java/lang/Object", "getClass", "()Ljava/lang/Class;"⟩ ⟨"java/lang/Object", "getClass", "()Ljava/lang/Class;"⟩, Cond.instanceMethod ⟨"java/lang/Object", "getClass", "()Ljava/lang/Class;"⟩, Cond.native ⟨"java/lang/Object", "getClass", "()Ljava/lang/Class;"⟩, Cond.methodLink RJ7 300 yJ7_copyOf_6403c, Cond.static yJ7_copyOf_6403c, Cond.code yJ7_copyOf_6403c cJ7_copyOf_6403c 4 (some (.array (.object "java/lang/Object"))), Cond.classLink RJ7 110 "[Ljava/lang/Object;", Cond.classLink RJ7 2 "java/lang/Object", Cond.methodLink RJ7 304 Lib.Math.min.name, Cond.static Lib.Math.min.name, Cond.code Lib.Math.min.name Lib.Math.min.code 2 (some .int), Cond.methodLink RJ7 150 arraycopyName, Cond.native arraycopyName, Cond.static arraycopyName, Cond.initialized "java/lang/System", Cond.methodLink RX6 274 yX0_fill, Cond.instanceMethod yX0_fill, Cond.selects RX0 yX0_fill yX0_fill, Cond.code yX0_fill cX0_fill 5 (some .int), Cond.methodLink RX0 52 Lib.Math.min.name, Cond.methodLink RX0 49 yX0_room]
def wsX6_pour_r5 : List Cond := [Cond.instanceMethod yX0_room, Cond.selects RX0 yX0_room yX0_room, Cond.code yX0_room cX0_room 1 (some .int)]
def wsX6_pour : List Cond := .code yX6_pour cX6_pour 7 none :: ((wsX6_pour_r1 ++ (wsX6_pour_r2 ++ (wsX6_pour_r3 ++ (wsX6_pour_r4 ++ wsX6_pour_r5)))) ++ wsX40 ++ wsX00 ++ wsX60 ++ wsX50 ++ wsJx4a65c0)
def wsX6_pourCup_r1 : List Cond := [Cond.fieldLink RX6 257 "ResinWoods$Face" "ofGrade" "[I", Cond.methodLink RX6 260 yX6_pour, Cond.instanceMethod yX6_pour, Cond.selects RX6 yX6_pour yX6_pour, Cond.initialized RX6, Cond.code yX6_pour cX6_pour 7 none, Cond.fieldLink RX6 146 "ResinWoods$Tree" "wood" "LResinWoods$Wood;", Cond.classLink RX6 171 RX0, Cond.instantiable RX0 6, Cond.initialized RX0, Cond.fieldLink RX6 29 "ResinWoods" "barrels" "Ljava/util/List;", Cond.fieldLink RX6 270 "ResinWoods$Wood" "latest" "LResinWoods$Barrel;", Cond.fieldLink RX6 177 "ResinWoods$Tree" "number" "I", Cond.methodLink RX6 250 yX5_openBarrel, Cond.instanceMethod yX5_openBarrel, Cond.selects RX5 yX5_openBarrel yX5_openBarrel, Cond.initialized RX5, Cond.code yX5_openBarrel cX5_openBarrel 1 (some (.object "ResinWoods$Barrel")), Cond.fieldLink RX5 23 "ResinWoods$Wood" "latest" "LResinWoods$Barrel;", Cond.methodLink RX5 30 yX0_isFull, Cond.instanceMethod yX0_isFull, Cond.selects RX0 yX0_isFull yX0_isFull, Cond.code yX0_isFull cX0_isFull 1 (some .boolean), Cond.fieldLink RX0 9 "ResinWoods$Barrel" "has" "I"]
def wsX6_pourCup_r2 : List Cond := [Cond.methodLink RX0 46 yX0_isGone, Cond.instanceMethod yX0_isGone, Cond.selects RX0 yX0_isGone yX0_isGone, Cond.code yX0_isGone cX0_isGone 1 (some .boolean), Cond.fieldLink RX0 22 "ResinWoods$Barrel" "isStilled" "Z", Cond.fieldLink RX0 26 "ResinWoods$Barrel" "isPaid" "Z", Cond.methodLink RX6 267 yX0_init, Cond.instanceMethod yX0_init, Cond.code yX0_init cX0_init 2 none, Cond.methodLink RX0 3 objectInit, Cond.instanceMethod objectInit, Cond.code objectInit ⟨#[0xb1]⟩ 1 none, Cond.arrayClass .int, Cond.fieldLink RX0 15 "ResinWoods$Barrel" "ofGrade" "[I", Cond.fieldLink RX0 19 "ResinWoods$Barrel" "ofTree" "[I", Cond.fieldLink RX0 29 "ResinWoods$Barrel" "wood" "LResinWoods$Wood;", Cond.methodLink RX6 91 ⟨"java/util/List", "add", "(Ljava/lang/Object;)Z"⟩, Cond.selects RJx4a65c ⟨"java/util/List", "add", "(Ljava/lang/Object;)Z"⟩ yJx4a65c_add_9ea2d, Cond.instanceMethod yJx4a65c_add_9ea2d, Cond.initialized RJx4a65c, Cond.code yJx4a65c_add_9ea2d cJx4a65c_add_9ea2d 2 (some .boolean), Cond.fieldLink RJx4a65c 63 "java/util/ArrayList" "modCount" "I", Cond.sameField "java/util/ArrayList" "java/util/AbstractList" "modCount" "I", Cond.fieldLink RJx4a65c 9 "java/util/ArrayList" "elementData" "[Ljava/lang/Object;"]
def wsX6_pourCup_r3 : List Cond := [Cond.fieldLink RJx4a65c 48 "java/util/ArrayList" "size" "I", Cond.methodLink RJx4a65c 131 yJx4a65c_add_72be8, Cond.instanceMethod yJx4a65c_add_72be8, Cond.selects RJx4a65c yJx4a65c_add_72be8 yJx4a65c_add_72be8, Cond.code yJx4a65c_add_72be8 cJx4a65c_add_72be8 4 none, Cond.methodLink RJx4a65c 129 yJx4a65c_grow_d5877, Cond.instanceMethod yJx4a65c_grow_d5877, Cond.selects RJx4a65c yJx4a65c_grow_d5877 yJx4a65c_grow_d5877, Cond.code yJx4a65c_grow_d5877 cJx4a65c_grow_d5877 1 (some (.array (.object "java/lang/Object"))), Cond.methodLink RJx4a65c 69 yJx4a65c_grow_92f84, Cond.instanceMethod yJx4a65c_grow_92f84, Cond.selects RJx4a65c yJx4a65c_grow_92f84 yJx4a65c_grow_92f84, Cond.code yJx4a65c_grow_92f84 cJx4a65c_grow_92f84 4 (some (.array (.object "java/lang/Object"))), Cond.fieldLink RJx4a65c 39 "java/util/ArrayList" "DEFAULTCAPACITY_EMPTY_ELEMENTDATA" "[Ljava/lang/Object;", Cond.methodLink RJx4a65c 79 Lib.Math.max.name, Cond.static Lib.Math.max.name, Cond.initialized "java/lang/Math", Cond.code Lib.Math.max.name Lib.Math.max.code 2 (some .int), Cond.classLink RJx4a65c 7 "java/lang/Object", Cond.methodLink RJx4a65c 73 yJ8_newLength_cabcc, Cond.static yJ8_newLength_cabcc, Cond.initialized RJ8, Cond.code yJ8_newLength_cabcc cJ8_newLength_cabcc 4 (some .int), Cond.methodLink RJ8 194 Lib.Math.max.name]
def wsX6_pourCup_r4 : List Cond := [Cond.constant RJ8 200 (2147483639), Cond.methodLink RJ8 201 yJ8_hugeLength_7cf53, Cond.static yJ8_hugeLength_7cf53, Cond.code yJ8_hugeLength_7cf53 cJ8_hugeLength_7cf53 3 (some .int), Cond.methodLink RJx4a65c 66 yJ7_copyOf_1904c, Cond.static yJ7_copyOf_1904c, Cond.initialized RJ7, Cond.code yJ7_copyOf_1904c cJ7_copyOf_1904c 2 (some (.array (.object "java/lang/Object"))), Cond.methodLink RJ7 86 ⟨"java/lang/Object", "getClass", "()Ljava/lang/Class;"⟩, Cond.selects "[Ljava/lang/Object;" ⟨"java/lang/Object", "getClass", "()Ljava/lang/Class;"⟩ ⟨"java/lang/Object", "getClass", "()Ljava/lang/Class;"⟩, Cond.instanceMethod ⟨"java/lang/Object", "getClass", "()Ljava/lang/Class;"⟩, Cond.native ⟨"java/lang/Object", "getClass", "()Ljava/lang/Class;"⟩, Cond.methodLink RJ7 300 yJ7_copyOf_6403c, Cond.static yJ7_copyOf_6403c, Cond.code yJ7_copyOf_6403c cJ7_copyOf_6403c 4 (some (.array (.object "java/lang/Object"))), Cond.classLink RJ7 110 "[Ljava/lang/Object;", Cond.classLink RJ7 2 "java/lang/Object", Cond.methodLink RJ7 304 Lib.Math.min.name, Cond.static Lib.Math.min.name, Cond.code Lib.Math.min.name Lib.Math.min.code 2 (some .int), Cond.methodLink RJ7 150 arraycopyName, Cond.native arraycopyName, Cond.static arraycopyName, Cond.initialized "java/lang/System"]
def wsX6_pourCup_r5 : List Cond := [Cond.methodLink RX6 274 yX0_fill, Cond.instanceMethod yX0_fill, Cond.selects RX0 yX0_fill yX0_fill, Cond.code yX0_fill cX0_fill 5 (some .int), Cond.methodLink RX0 52 Lib.Math.min.name, Cond.methodLink RX0 49 yX0_room, Cond.instanceMethod yX0_room, Cond.selects RX0 yX0_room yX0_room, Cond.code yX0_room cX0_room 1 (some .int), Cond.methodLink RX6 264 yX1_clearCup, Cond.instanceMethod yX1_clearCup, Cond.selects RX1 yX1_clearCup yX1_clearCup, Cond.initialized RX1, Cond.code yX1_clearCup cX1_clearCup 2 none, Cond.fieldLink RX1 21 "ResinWoods$Face" "has" "I", Cond.fieldLink RX1 27 "ResinWoods$Face" "ofGrade" "[I"]
def wsX6_pourCup : List Cond := .code yX6_pourCup cX6_pourCup 4 none :: ((wsX6_pourCup_r1 ++ (wsX6_pourCup_r2 ++ (wsX6_pourCup_r3 ++ (wsX6_pourCup_r4 ++ wsX6_pourCup_r5)))) ++ wsX10 ++ wsX40 ++ wsX00 ++ wsX60 ++ wsX50 ++ wsJx4a65c0)
def wsX6_empty_r1 : List Cond := [Cond.fieldLink RX6 29 "ResinWoods" "barrels" "Ljava/util/List;", Cond.fieldLink RX6 146 "ResinWoods$Tree" "wood" "LResinWoods$Wood;", Cond.fieldLink RX6 154 "ResinWoods$Tree" "faces" "Ljava/util/List;", Cond.classLink RX6 117 "ResinWoods$Face", Cond.fieldLink RX6 165 "ResinWoods$Wood" "emptied" "I", Cond.fieldLink RX6 50 "ResinWoods" "emptied" "I", Cond.methodLink RX6 98 yX6_treeAt, Cond.instanceMethod yX6_treeAt, Cond.selects RX6 yX6_treeAt yX6_treeAt, Cond.initialized RX6, Cond.code yX6_treeAt cX6_treeAt 2 (some (.object "ResinWoods$Tree")), Cond.fieldLink RX6 25 "ResinWoods" "trees" "Ljava/util/List;", Cond.classLink RX6 82 "ResinWoods$Tree", Cond.methodLink RX6 76 ⟨"java/util/List", "size", "()I"⟩, Cond.selects RJx4a65c ⟨"java/util/List", "size", "()I"⟩ yJx4a65c_size_8abf5, Cond.instanceMethod yJx4a65c_size_8abf5, Cond.initialized RJx4a65c, Cond.code yJx4a65c_size_8abf5 cJx4a65c_size_8abf5 1 (some .int), Cond.fieldLink RJx4a65c 48 "java/util/ArrayList" "size" "I", Cond.methodLink RX6 157 ⟨"java/util/List", "get", "(I)Ljava/lang/Object;"⟩, Cond.selects RJx4a65c ⟨"java/util/List", "get", "(I)Ljava/lang/Object;"⟩ yJx4a65c_get_915e3, Cond.instanceMethod yJx4a65c_get_915e3, Cond.code yJx4a65c_get_915e3 cJx4a65c_get_915e3 2 (some (.object "java/lang/Object")), Cond.methodLink RJx4a65c 118 yJ15_checkIndex_7cf53]
def wsX6_empty_r2 : List Cond := [Cond.static yJ15_checkIndex_7cf53, Cond.initialized RJ15, Cond.code yJ15_checkIndex_7cf53 cJ15_checkIndex_7cf53 2 (some .int), Cond.methodLink RJ15 105 yJ3_checkIndex_8e157, Cond.static yJ3_checkIndex_8e157, Cond.initialized RJ3, Cond.code yJ3_checkIndex_8e157 cJ3_checkIndex_8e157 3 (some .int), Cond.methodLink RJx4a65c 123 yJx4a65c_elementData_915e3, Cond.instanceMethod yJx4a65c_elementData_915e3, Cond.selects RJx4a65c yJx4a65c_elementData_915e3 yJx4a65c_elementData_915e3, Cond.code yJx4a65c_elementData_915e3 cJx4a65c_elementData_915e3 2 (some (.object "java/lang/Object")), Cond.fieldLink RJx4a65c 9 "java/util/ArrayList" "elementData" "[Ljava/lang/Object;", Cond.methodLink RX6 143 yX4_inCups, Cond.instanceMethod yX4_inCups, Cond.selects RX4 yX4_inCups yX4_inCups, Cond.initialized RX4, Cond.code yX4_inCups cX4_inCups 3 (some .int), Cond.fieldLink RX4 12 "ResinWoods$Tree" "faces" "Ljava/util/List;", Cond.classLink RX4 49 "ResinWoods$Face", Cond.fieldLink RX4 69 "ResinWoods$Face" "has" "I", Cond.methodLink RX4 39 ⟨"java/util/List", "size", "()I"⟩, Cond.methodLink RX4 45 ⟨"java/util/List", "get", "(I)Ljava/lang/Object;"⟩, Cond.methodLink RX6 150 yX6_newBarrelsFor, Cond.static yX6_newBarrelsFor]
def wsX6_empty_r3 : List Cond := [Cond.code yX6_newBarrelsFor cX6_newBarrelsFor 4 (some .int), Cond.methodLink RX6 250 yX5_openBarrel, Cond.instanceMethod yX5_openBarrel, Cond.selects RX5 yX5_openBarrel yX5_openBarrel, Cond.initialized RX5, Cond.code yX5_openBarrel cX5_openBarrel 1 (some (.object "ResinWoods$Barrel")), Cond.fieldLink RX5 23 "ResinWoods$Wood" "latest" "LResinWoods$Barrel;", Cond.methodLink RX5 30 yX0_isFull, Cond.instanceMethod yX0_isFull, Cond.selects RX0 yX0_isFull yX0_isFull, Cond.initialized RX0, Cond.code yX0_isFull cX0_isFull 1 (some .boolean), Cond.fieldLink RX0 9 "ResinWoods$Barrel" "has" "I", Cond.methodLink RX0 46 yX0_isGone, Cond.instanceMethod yX0_isGone, Cond.selects RX0 yX0_isGone yX0_isGone, Cond.code yX0_isGone cX0_isGone 1 (some .boolean), Cond.fieldLink RX0 22 "ResinWoods$Barrel" "isStilled" "Z", Cond.fieldLink RX0 26 "ResinWoods$Barrel" "isPaid" "Z", Cond.methodLink RX6 254 yX0_room, Cond.instanceMethod yX0_room, Cond.selects RX0 yX0_room yX0_room, Cond.code yX0_room cX0_room 1 (some .int), Cond.methodLink RX6 161 yX6_pourCup]
def wsX6_empty_r4 : List Cond := [Cond.instanceMethod yX6_pourCup, Cond.selects RX6 yX6_pourCup yX6_pourCup, Cond.code yX6_pourCup cX6_pourCup 4 none, Cond.fieldLink RX6 257 "ResinWoods$Face" "ofGrade" "[I", Cond.methodLink RX6 260 yX6_pour, Cond.instanceMethod yX6_pour, Cond.selects RX6 yX6_pour yX6_pour, Cond.code yX6_pour cX6_pour 7 none, Cond.classLink RX6 171 RX0, Cond.instantiable RX0 6, Cond.fieldLink RX6 270 "ResinWoods$Wood" "latest" "LResinWoods$Barrel;", Cond.fieldLink RX6 177 "ResinWoods$Tree" "number" "I", Cond.methodLink RX6 267 yX0_init, Cond.instanceMethod yX0_init, Cond.code yX0_init cX0_init 2 none, Cond.methodLink RX0 3 objectInit, Cond.instanceMethod objectInit, Cond.code objectInit ⟨#[0xb1]⟩ 1 none, Cond.arrayClass .int, Cond.fieldLink RX0 15 "ResinWoods$Barrel" "ofGrade" "[I", Cond.fieldLink RX0 19 "ResinWoods$Barrel" "ofTree" "[I", Cond.fieldLink RX0 29 "ResinWoods$Barrel" "wood" "LResinWoods$Wood;", Cond.methodLink RX6 91 ⟨"java/util/List", "add", "(Ljava/lang/Object;)Z"⟩, Cond.selects RJx4a65c ⟨"java/util/List", "add", "(Ljava/lang/Object;)Z"⟩ yJx4a65c_add_9ea2d]
def wsX6_empty_r5 : List Cond := [Cond.instanceMethod yJx4a65c_add_9ea2d, Cond.code yJx4a65c_add_9ea2d cJx4a65c_add_9ea2d 2 (some .boolean), Cond.fieldLink RJx4a65c 63 "java/util/ArrayList" "modCount" "I", Cond.sameField "java/util/ArrayList" "java/util/AbstractList" "modCount" "I", Cond.methodLink RJx4a65c 131 yJx4a65c_add_72be8, Cond.instanceMethod yJx4a65c_add_72be8, Cond.selects RJx4a65c yJx4a65c_add_72be8 yJx4a65c_add_72be8, Cond.code yJx4a65c_add_72be8 cJx4a65c_add_72be8 4 none, Cond.methodLink RJx4a65c 129 yJx4a65c_grow_d5877, Cond.instanceMethod yJx4a65c_grow_d5877, Cond.selects RJx4a65c yJx4a65c_grow_d5877 yJx4a65c_grow_d5877, Cond.code yJx4a65c_grow_d5877 cJx4a65c_grow_d5877 1 (some (.array (.object "java/lang/Object"))), Cond.methodLink RJx4a65c 69 yJx4a65c_grow_92f84, Cond.instanceMethod yJx4a65c_grow_92f84, Cond.selects RJx4a65c yJx4a65c_grow_92f84 yJx4a65c_grow_92f84, Cond.code yJx4a65c_grow_92f84 cJx4a65c_grow_92f84 4 (some (.array (.object "java/lang/Object"))), Cond.fieldLink RJx4a65c 39 "java/util/ArrayList" "DEFAULTCAPACITY_EMPTY_ELEMENTDATA" "[Ljava/lang/Object;", Cond.methodLink RJx4a65c 79 Lib.Math.max.name, Cond.static Lib.Math.max.name, Cond.initialized "java/lang/Math", Cond.code Lib.Math.max.name Lib.Math.max.code 2 (some .int), Cond.classLink RJx4a65c 7 "java/lang/Object", Cond.methodLink RJx4a65c 73 yJ8_newLength_cabcc, Cond.static yJ8_newLength_cabcc]
def wsX6_empty_r6 : List Cond := [Cond.initialized RJ8, Cond.code yJ8_newLength_cabcc cJ8_newLength_cabcc 4 (some .int), Cond.methodLink RJ8 194 Lib.Math.max.name, Cond.constant RJ8 200 (2147483639), Cond.methodLink RJ8 201 yJ8_hugeLength_7cf53, Cond.static yJ8_hugeLength_7cf53, Cond.code yJ8_hugeLength_7cf53 cJ8_hugeLength_7cf53 3 (some .int), Cond.methodLink RJx4a65c 66 yJ7_copyOf_1904c, Cond.static yJ7_copyOf_1904c, Cond.initialized RJ7, Cond.code yJ7_copyOf_1904c cJ7_copyOf_1904c 2 (some (.array (.object "java/lang/Object"))), Cond.methodLink RJ7 86 ⟨"java/lang/Object", "getClass", "()Ljava/lang/Class;"⟩, Cond.selects "[Ljava/lang/Object;" ⟨"java/lang/Object", "getClass", "()Ljava/lang/Class;"⟩ ⟨"java/lang/Object", "getClass", "()Ljava/lang/Class;"⟩, Cond.instanceMethod ⟨"java/lang/Object", "getClass", "()Ljava/lang/Class;"⟩, Cond.native ⟨"java/lang/Object", "getClass", "()Ljava/lang/Class;"⟩, Cond.methodLink RJ7 300 yJ7_copyOf_6403c, Cond.static yJ7_copyOf_6403c, Cond.code yJ7_copyOf_6403c cJ7_copyOf_6403c 4 (some (.array (.object "java/lang/Object"))), Cond.classLink RJ7 110 "[Ljava/lang/Object;", Cond.classLink RJ7 2 "java/lang/Object", Cond.methodLink RJ7 304 Lib.Math.min.name, Cond.static Lib.Math.min.name, Cond.code Lib.Math.min.name Lib.Math.min.code 2 (some .int), Cond.methodLink RJ7 150 arraycopyName]
def wsX6_empty_r7 : List Cond := [Cond.native arraycopyName, Cond.static arraycopyName, Cond.initialized "java/lang/System", Cond.methodLink RX6 274 yX0_fill, Cond.instanceMethod yX0_fill, Cond.selects RX0 yX0_fill yX0_fill, Cond.code yX0_fill cX0_fill 5 (some .int), Cond.methodLink RX0 52 Lib.Math.min.name, Cond.methodLink RX0 49 yX0_room, Cond.methodLink RX6 264 yX1_clearCup, Cond.instanceMethod yX1_clearCup, Cond.selects RX1 yX1_clearCup yX1_clearCup, Cond.initialized RX1, Cond.code yX1_clearCup cX1_clearCup 2 none, Cond.fieldLink RX1 21 "ResinWoods$Face" "has" "I", Cond.fieldLink RX1 27 "ResinWoods$Face" "ofGrade" "[I"]
def wsX6_empty : List Cond := .code yX6_empty cX6_empty 5 (some .int) :: ((wsX6_empty_r1 ++ (wsX6_empty_r2 ++ (wsX6_empty_r3 ++ (wsX6_empty_r4 ++ (wsX6_empty_r5 ++ (wsX6_empty_r6 ++ wsX6_empty_r7)))))) ++ wsX60 ++ wsX40 ++ wsX50 ++ wsJx4a65c0 ++ wsX10 ++ wsX00)
def wsX6_barrelAt_r1 : List Cond := [Cond.fieldLink RX6 29 "ResinWoods" "barrels" "Ljava/util/List;", Cond.classLink RX6 171 "ResinWoods$Barrel", Cond.methodLink RX6 76 ⟨"java/util/List", "size", "()I"⟩, Cond.selects RJx4a65c ⟨"java/util/List", "size", "()I"⟩ yJx4a65c_size_8abf5, Cond.instanceMethod yJx4a65c_size_8abf5, Cond.initialized RJx4a65c, Cond.code yJx4a65c_size_8abf5 cJx4a65c_size_8abf5 1 (some .int), Cond.fieldLink RJx4a65c 48 "java/util/ArrayList" "size" "I", Cond.methodLink RX6 157 ⟨"java/util/List", "get", "(I)Ljava/lang/Object;"⟩, Cond.selects RJx4a65c ⟨"java/util/List", "get", "(I)Ljava/lang/Object;"⟩ yJx4a65c_get_915e3, Cond.instanceMethod yJx4a65c_get_915e3, Cond.code yJx4a65c_get_915e3 cJx4a65c_get_915e3 2 (some (.object "java/lang/Object")), Cond.methodLink RJx4a65c 118 yJ15_checkIndex_7cf53, Cond.static yJ15_checkIndex_7cf53, Cond.initialized RJ15, Cond.code yJ15_checkIndex_7cf53 cJ15_checkIndex_7cf53 2 (some .int), Cond.methodLink RJ15 105 yJ3_checkIndex_8e157, Cond.static yJ3_checkIndex_8e157, Cond.initialized RJ3, Cond.code yJ3_checkIndex_8e157 cJ3_checkIndex_8e157 3 (some .int), Cond.methodLink RJx4a65c 123 yJx4a65c_elementData_915e3, Cond.instanceMethod yJx4a65c_elementData_915e3, Cond.selects RJx4a65c yJx4a65c_elementData_915e3 yJx4a65c_elementData_915e3, Cond.code yJx4a65c_elementData_915e3 cJx4a65c_elementData_915e3 2 (some (.object "java/lang/Object"))]
def wsX6_barrelAt_r2 : List Cond := [Cond.fieldLink RJx4a65c 9 "java/util/ArrayList" "elementData" "[Ljava/lang/Object;"]
def wsX6_barrelAt : List Cond := .code yX6_barrelAt cX6_barrelAt 2 (some (.object "ResinWoods$Barrel")) :: ((wsX6_barrelAt_r1 ++ wsX6_barrelAt_r2) ++ wsX60 ++ wsJx4a65c0)
def wsX6_barrel_r1 : List Cond := [Cond.methodLink RX6 166 yX6_barrelAt, Cond.instanceMethod yX6_barrelAt, Cond.selects RX6 yX6_barrelAt yX6_barrelAt, Cond.initialized RX6, Cond.code yX6_barrelAt cX6_barrelAt 2 (some (.object "ResinWoods$Barrel")), Cond.fieldLink RX6 29 "ResinWoods" "barrels" "Ljava/util/List;", Cond.classLink RX6 171 "ResinWoods$Barrel", Cond.methodLink RX6 76 ⟨"java/util/List", "size", "()I"⟩, Cond.selects RJx4a65c ⟨"java/util/List", "size", "()I"⟩ yJx4a65c_size_8abf5, Cond.instanceMethod yJx4a65c_size_8abf5, Cond.initialized RJx4a65c, Cond.code yJx4a65c_size_8abf5 cJx4a65c_size_8abf5 1 (some .int), Cond.fieldLink RJx4a65c 48 "java/util/ArrayList" "size" "I", Cond.methodLink RX6 157 ⟨"java/util/List", "get", "(I)Ljava/lang/Object;"⟩, Cond.selects RJx4a65c ⟨"java/util/List", "get", "(I)Ljava/lang/Object;"⟩ yJx4a65c_get_915e3, Cond.instanceMethod yJx4a65c_get_915e3, Cond.code yJx4a65c_get_915e3 cJx4a65c_get_915e3 2 (some (.object "java/lang/Object")), Cond.methodLink RJx4a65c 118 yJ15_checkIndex_7cf53, Cond.static yJ15_checkIndex_7cf53, Cond.initialized RJ15, Cond.code yJ15_checkIndex_7cf53 cJ15_checkIndex_7cf53 2 (some .int), Cond.methodLink RJ15 105 yJ3_checkIndex_8e157, Cond.static yJ3_checkIndex_8e157, Cond.initialized RJ3]
def wsX6_barrel_r2 : List Cond := [Cond.code yJ3_checkIndex_8e157 cJ3_checkIndex_8e157 3 (some .int), Cond.methodLink RJx4a65c 123 yJx4a65c_elementData_915e3, Cond.instanceMethod yJx4a65c_elementData_915e3, Cond.selects RJx4a65c yJx4a65c_elementData_915e3 yJx4a65c_elementData_915e3, Cond.code yJx4a65c_elementData_915e3 cJx4a65c_elementData_915e3 2 (some (.object "java/lang/Object")), Cond.fieldLink RJx4a65c 9 "java/util/ArrayList" "elementData" "[Ljava/lang/Object;", Cond.methodLink RX6 170 yX0_tell, Cond.instanceMethod yX0_tell, Cond.selects RX0 yX0_tell yX0_tell, Cond.initialized RX0, Cond.code yX0_tell cX0_tell 2 (some .int), Cond.fieldLink RX0 9 "ResinWoods$Barrel" "has" "I", Cond.fieldLink RX0 15 "ResinWoods$Barrel" "ofGrade" "[I", Cond.fieldLink RX0 29 "ResinWoods$Barrel" "wood" "LResinWoods$Wood;", Cond.fieldLink RX0 37 "ResinWoods$Wood" "number" "I", Cond.fieldLink RX0 22 "ResinWoods$Barrel" "isStilled" "Z", Cond.fieldLink RX0 26 "ResinWoods$Barrel" "isPaid" "Z", Cond.methodLink RX0 33 yX0_gradeOf, Cond.instanceMethod yX0_gradeOf, Cond.selects RX0 yX0_gradeOf yX0_gradeOf, Cond.code yX0_gradeOf cX0_gradeOf 3 (some .int), Cond.methodLink RX0 42 yX0_isFull, Cond.instanceMethod yX0_isFull, Cond.selects RX0 yX0_isFull yX0_isFull]
def wsX6_barrel_r3 : List Cond := [Cond.code yX0_isFull cX0_isFull 1 (some .boolean), Cond.methodLink RX0 46 yX0_isGone, Cond.instanceMethod yX0_isGone, Cond.selects RX0 yX0_isGone yX0_isGone, Cond.code yX0_isGone cX0_isGone 1 (some .boolean)]
def wsX6_barrel : List Cond := .code yX6_barrel cX6_barrel 4 (some .int) :: ((wsX6_barrel_r1 ++ (wsX6_barrel_r2 ++ wsX6_barrel_r3)) ++ wsX60 ++ wsJx4a65c0 ++ wsX00 ++ wsX50)
def wsX6_from_r1 : List Cond := [Cond.fieldLink RX6 173 "ResinWoods$Barrel" "ofTree" "[I", Cond.fieldLink RX6 177 "ResinWoods$Tree" "number" "I", Cond.methodLink RX6 166 yX6_barrelAt, Cond.instanceMethod yX6_barrelAt, Cond.selects RX6 yX6_barrelAt yX6_barrelAt, Cond.initialized RX6, Cond.code yX6_barrelAt cX6_barrelAt 2 (some (.object "ResinWoods$Barrel")), Cond.fieldLink RX6 29 "ResinWoods" "barrels" "Ljava/util/List;", Cond.classLink RX6 171 "ResinWoods$Barrel", Cond.methodLink RX6 76 ⟨"java/util/List", "size", "()I"⟩, Cond.selects RJx4a65c ⟨"java/util/List", "size", "()I"⟩ yJx4a65c_size_8abf5, Cond.instanceMethod yJx4a65c_size_8abf5, Cond.initialized RJx4a65c, Cond.code yJx4a65c_size_8abf5 cJx4a65c_size_8abf5 1 (some .int), Cond.fieldLink RJx4a65c 48 "java/util/ArrayList" "size" "I", Cond.methodLink RX6 157 ⟨"java/util/List", "get", "(I)Ljava/lang/Object;"⟩, Cond.selects RJx4a65c ⟨"java/util/List", "get", "(I)Ljava/lang/Object;"⟩ yJx4a65c_get_915e3, Cond.instanceMethod yJx4a65c_get_915e3, Cond.code yJx4a65c_get_915e3 cJx4a65c_get_915e3 2 (some (.object "java/lang/Object")), Cond.methodLink RJx4a65c 118 yJ15_checkIndex_7cf53, Cond.static yJ15_checkIndex_7cf53, Cond.initialized RJ15, Cond.code yJ15_checkIndex_7cf53 cJ15_checkIndex_7cf53 2 (some .int), Cond.methodLink RJ15 105 yJ3_checkIndex_8e157]
def wsX6_from_r2 : List Cond := [Cond.static yJ3_checkIndex_8e157, Cond.initialized RJ3, Cond.code yJ3_checkIndex_8e157 cJ3_checkIndex_8e157 3 (some .int), Cond.methodLink RJx4a65c 123 yJx4a65c_elementData_915e3, Cond.instanceMethod yJx4a65c_elementData_915e3, Cond.selects RJx4a65c yJx4a65c_elementData_915e3 yJx4a65c_elementData_915e3, Cond.code yJx4a65c_elementData_915e3 cJx4a65c_elementData_915e3 2 (some (.object "java/lang/Object")), Cond.fieldLink RJx4a65c 9 "java/util/ArrayList" "elementData" "[Ljava/lang/Object;", Cond.methodLink RX6 98 yX6_treeAt, Cond.instanceMethod yX6_treeAt, Cond.selects RX6 yX6_treeAt yX6_treeAt, Cond.code yX6_treeAt cX6_treeAt 2 (some (.object "ResinWoods$Tree")), Cond.fieldLink RX6 25 "ResinWoods" "trees" "Ljava/util/List;", Cond.classLink RX6 82 "ResinWoods$Tree"]
def wsX6_from : List Cond := .code yX6_from cX6_from 5 (some .int) :: ((wsX6_from_r1 ++ wsX6_from_r2) ++ wsX00 ++ wsX40 ++ wsX60 ++ wsJx4a65c0)
def wsX6_still_r1 : List Cond := [Cond.fieldLink RX6 184 "ResinWoods$Barrel" "isStilled" "Z", Cond.fieldLink RX6 56 "ResinWoods" "spirit" "I", Cond.fieldLink RX6 59 "ResinWoods" "rosin" "I", Cond.methodLink RX6 166 yX6_barrelAt, Cond.instanceMethod yX6_barrelAt, Cond.selects RX6 yX6_barrelAt yX6_barrelAt, Cond.initialized RX6, Cond.code yX6_barrelAt cX6_barrelAt 2 (some (.object "ResinWoods$Barrel")), Cond.fieldLink RX6 29 "ResinWoods" "barrels" "Ljava/util/List;", Cond.classLink RX6 171 "ResinWoods$Barrel", Cond.methodLink RX6 76 ⟨"java/util/List", "size", "()I"⟩, Cond.selects RJx4a65c ⟨"java/util/List", "size", "()I"⟩ yJx4a65c_size_8abf5, Cond.instanceMethod yJx4a65c_size_8abf5, Cond.initialized RJx4a65c, Cond.code yJx4a65c_size_8abf5 cJx4a65c_size_8abf5 1 (some .int), Cond.fieldLink RJx4a65c 48 "java/util/ArrayList" "size" "I", Cond.methodLink RX6 157 ⟨"java/util/List", "get", "(I)Ljava/lang/Object;"⟩, Cond.selects RJx4a65c ⟨"java/util/List", "get", "(I)Ljava/lang/Object;"⟩ yJx4a65c_get_915e3, Cond.instanceMethod yJx4a65c_get_915e3, Cond.code yJx4a65c_get_915e3 cJx4a65c_get_915e3 2 (some (.object "java/lang/Object")), Cond.methodLink RJx4a65c 118 yJ15_checkIndex_7cf53, Cond.static yJ15_checkIndex_7cf53, Cond.initialized RJ15, Cond.code yJ15_checkIndex_7cf53 cJ15_checkIndex_7cf53 2 (some .int)]
def wsX6_still_r2 : List Cond := [Cond.methodLink RJ15 105 yJ3_checkIndex_8e157, Cond.static yJ3_checkIndex_8e157, Cond.initialized RJ3, Cond.code yJ3_checkIndex_8e157 cJ3_checkIndex_8e157 3 (some .int), Cond.methodLink RJx4a65c 123 yJx4a65c_elementData_915e3, Cond.instanceMethod yJx4a65c_elementData_915e3, Cond.selects RJx4a65c yJx4a65c_elementData_915e3 yJx4a65c_elementData_915e3, Cond.code yJx4a65c_elementData_915e3 cJx4a65c_elementData_915e3 2 (some (.object "java/lang/Object")), Cond.fieldLink RJx4a65c 9 "java/util/ArrayList" "elementData" "[Ljava/lang/Object;", Cond.methodLink RX6 180 yX0_isGone, Cond.instanceMethod yX0_isGone, Cond.selects RX0 yX0_isGone yX0_isGone, Cond.initialized RX0, Cond.code yX0_isGone cX0_isGone 1 (some .boolean), Cond.fieldLink RX0 22 "ResinWoods$Barrel" "isStilled" "Z", Cond.fieldLink RX0 26 "ResinWoods$Barrel" "isPaid" "Z", Cond.methodLink RX6 187 yX0_spiritOf, Cond.instanceMethod yX0_spiritOf, Cond.selects RX0 yX0_spiritOf yX0_spiritOf, Cond.code yX0_spiritOf cX0_spiritOf 1 (some .int), Cond.fieldLink RX0 9 "ResinWoods$Barrel" "has" "I", Cond.methodLink RX6 190 yX0_rosinOf, Cond.instanceMethod yX0_rosinOf, Cond.selects RX0 yX0_rosinOf yX0_rosinOf]
def wsX6_still_r3 : List Cond := [Cond.code yX0_rosinOf cX0_rosinOf 1 (some .int), Cond.methodLink RX0 52 Lib.Math.min.name, Cond.static Lib.Math.min.name, Cond.initialized "java/lang/Math", Cond.code Lib.Math.min.name Lib.Math.min.code 2 (some .int), Cond.methodLink RX0 33 yX0_gradeOf, Cond.instanceMethod yX0_gradeOf, Cond.selects RX0 yX0_gradeOf yX0_gradeOf, Cond.code yX0_gradeOf cX0_gradeOf 3 (some .int), Cond.fieldLink RX0 15 "ResinWoods$Barrel" "ofGrade" "[I"]
def wsX6_still : List Cond := .code yX6_still cX6_still 3 (some .int) :: ((wsX6_still_r1 ++ (wsX6_still_r2 ++ wsX6_still_r3)) ++ wsX00 ++ wsX60 ++ wsJx4a65c0)
def wsX6_let : List Cond := .code yX6_let cX6_let 4 (some .boolean) :: ([.methodLink RX6 65 yX6_woodAt, .instanceMethod yX6_woodAt, .selects RX6 yX6_woodAt yX6_woodAt, .initialized RX6, .code yX6_woodAt cX6_woodAt 2 (some (.object "ResinWoods$Wood")), .fieldLink RX6 18 "ResinWoods" "woods" "[LResinWoods$Wood;", .methodLink RX6 193 yX5_letFor, .instanceMethod yX5_letFor, .selects RX5 yX5_letFor yX5_letFor, .initialized RX5, .code yX5_letFor cX5_letFor 2 none, .fieldLink RX5 7 "ResinWoods$Wood" "isLet" "Z", .fieldLink RX5 13 "ResinWoods$Wood" "rent" "I", .fieldLink RX5 17 "ResinWoods$Wood" "emptied" "I", .fieldLink RX5 20 "ResinWoods$Wood" "paid" "I"] ++ wsX60 ++ wsX50)
def wsX6_due : List Cond := .code yX6_due cX6_due 3 (some .int) :: ([.methodLink RX6 65 yX6_woodAt, .instanceMethod yX6_woodAt, .selects RX6 yX6_woodAt yX6_woodAt, .initialized RX6, .code yX6_woodAt cX6_woodAt 2 (some (.object "ResinWoods$Wood")), .fieldLink RX6 18 "ResinWoods" "woods" "[LResinWoods$Wood;", .methodLink RX6 196 yX5_stillDue, .instanceMethod yX5_stillDue, .selects RX5 yX5_stillDue yX5_stillDue, .initialized RX5, .code yX5_stillDue cX5_stillDue 1 (some .int), .fieldLink RX5 7 "ResinWoods$Wood" "isLet" "Z", .fieldLink RX5 17 "ResinWoods$Wood" "emptied" "I", .fieldLink RX5 13 "ResinWoods$Wood" "rent" "I", .fieldLink RX5 20 "ResinWoods$Wood" "paid" "I"] ++ wsX60 ++ wsX50)
def wsX6_pay_r1 : List Cond := [Cond.fieldLink RX6 199 "ResinWoods$Barrel" "wood" "LResinWoods$Wood;", Cond.fieldLink RX6 200 "ResinWoods$Wood" "isLet" "Z", Cond.constant RX6 203 (-2147483648), Cond.fieldLink RX6 204 "ResinWoods$Barrel" "isPaid" "Z", Cond.fieldLink RX6 207 "ResinWoods$Wood" "paid" "I", Cond.fieldLink RX6 210 "ResinWoods$Barrel" "has" "I", Cond.methodLink RX6 166 yX6_barrelAt, Cond.instanceMethod yX6_barrelAt, Cond.selects RX6 yX6_barrelAt yX6_barrelAt, Cond.initialized RX6, Cond.code yX6_barrelAt cX6_barrelAt 2 (some (.object "ResinWoods$Barrel")), Cond.fieldLink RX6 29 "ResinWoods" "barrels" "Ljava/util/List;", Cond.classLink RX6 171 "ResinWoods$Barrel", Cond.methodLink RX6 76 ⟨"java/util/List", "size", "()I"⟩, Cond.selects RJx4a65c ⟨"java/util/List", "size", "()I"⟩ yJx4a65c_size_8abf5, Cond.instanceMethod yJx4a65c_size_8abf5, Cond.initialized RJx4a65c, Cond.code yJx4a65c_size_8abf5 cJx4a65c_size_8abf5 1 (some .int), Cond.fieldLink RJx4a65c 48 "java/util/ArrayList" "size" "I", Cond.methodLink RX6 157 ⟨"java/util/List", "get", "(I)Ljava/lang/Object;"⟩, Cond.selects RJx4a65c ⟨"java/util/List", "get", "(I)Ljava/lang/Object;"⟩ yJx4a65c_get_915e3, Cond.instanceMethod yJx4a65c_get_915e3, Cond.code yJx4a65c_get_915e3 cJx4a65c_get_915e3 2 (some (.object "java/lang/Object")), Cond.methodLink RJx4a65c 118 yJ15_checkIndex_7cf53]
def wsX6_pay_r2 : List Cond := [Cond.static yJ15_checkIndex_7cf53, Cond.initialized RJ15, Cond.code yJ15_checkIndex_7cf53 cJ15_checkIndex_7cf53 2 (some .int), Cond.methodLink RJ15 105 yJ3_checkIndex_8e157, Cond.static yJ3_checkIndex_8e157, Cond.initialized RJ3, Cond.code yJ3_checkIndex_8e157 cJ3_checkIndex_8e157 3 (some .int), Cond.methodLink RJx4a65c 123 yJx4a65c_elementData_915e3, Cond.instanceMethod yJx4a65c_elementData_915e3, Cond.selects RJx4a65c yJx4a65c_elementData_915e3 yJx4a65c_elementData_915e3, Cond.code yJx4a65c_elementData_915e3 cJx4a65c_elementData_915e3 2 (some (.object "java/lang/Object")), Cond.fieldLink RJx4a65c 9 "java/util/ArrayList" "elementData" "[Ljava/lang/Object;", Cond.methodLink RX6 180 yX0_isGone, Cond.instanceMethod yX0_isGone, Cond.selects RX0 yX0_isGone yX0_isGone, Cond.initialized RX0, Cond.code yX0_isGone cX0_isGone 1 (some .boolean), Cond.fieldLink RX0 22 "ResinWoods$Barrel" "isStilled" "Z", Cond.fieldLink RX0 26 "ResinWoods$Barrel" "isPaid" "Z", Cond.methodLink RX6 196 yX5_stillDue, Cond.instanceMethod yX5_stillDue, Cond.selects RX5 yX5_stillDue yX5_stillDue, Cond.initialized RX5, Cond.code yX5_stillDue cX5_stillDue 1 (some .int)]
def wsX6_pay_r3 : List Cond := [Cond.fieldLink RX5 7 "ResinWoods$Wood" "isLet" "Z", Cond.fieldLink RX5 17 "ResinWoods$Wood" "emptied" "I", Cond.fieldLink RX5 13 "ResinWoods$Wood" "rent" "I", Cond.fieldLink RX5 20 "ResinWoods$Wood" "paid" "I"]
def wsX6_pay : List Cond := .code yX6_pay cX6_pay 3 (some .int) :: ((wsX6_pay_r1 ++ (wsX6_pay_r2 ++ wsX6_pay_r3)) ++ wsX00 ++ wsX50 ++ wsX60 ++ wsJx4a65c0)
def wsX6_burn_r1 : List Cond := [Cond.fieldLink RX6 200 "ResinWoods$Wood" "isLet" "Z", Cond.fieldLink RX6 25 "ResinWoods" "trees" "Ljava/util/List;", Cond.classLink RX6 82 "ResinWoods$Tree", Cond.fieldLink RX6 146 "ResinWoods$Tree" "wood" "LResinWoods$Wood;", Cond.fieldLink RX6 213 "ResinWoods$Wood" "number" "I", Cond.fieldLink RX6 102 "ResinWoods$Tree" "isBurnt" "Z", Cond.fieldLink RX6 53 "ResinWoods" "burnt" "I", Cond.methodLink RX6 65 yX6_woodAt, Cond.instanceMethod yX6_woodAt, Cond.selects RX6 yX6_woodAt yX6_woodAt, Cond.initialized RX6, Cond.code yX6_woodAt cX6_woodAt 2 (some (.object "ResinWoods$Wood")), Cond.fieldLink RX6 18 "ResinWoods" "woods" "[LResinWoods$Wood;", Cond.methodLink RX6 76 ⟨"java/util/List", "size", "()I"⟩, Cond.selects RJx4a65c ⟨"java/util/List", "size", "()I"⟩ yJx4a65c_size_8abf5, Cond.instanceMethod yJx4a65c_size_8abf5, Cond.initialized RJx4a65c, Cond.code yJx4a65c_size_8abf5 cJx4a65c_size_8abf5 1 (some .int), Cond.fieldLink RJx4a65c 48 "java/util/ArrayList" "size" "I", Cond.methodLink RX6 157 ⟨"java/util/List", "get", "(I)Ljava/lang/Object;"⟩, Cond.selects RJx4a65c ⟨"java/util/List", "get", "(I)Ljava/lang/Object;"⟩ yJx4a65c_get_915e3, Cond.instanceMethod yJx4a65c_get_915e3, Cond.code yJx4a65c_get_915e3 cJx4a65c_get_915e3 2 (some (.object "java/lang/Object")), Cond.methodLink RJx4a65c 118 yJ15_checkIndex_7cf53]
def wsX6_burn_r2 : List Cond := [Cond.static yJ15_checkIndex_7cf53, Cond.initialized RJ15, Cond.code yJ15_checkIndex_7cf53 cJ15_checkIndex_7cf53 2 (some .int), Cond.methodLink RJ15 105 yJ3_checkIndex_8e157, Cond.static yJ3_checkIndex_8e157, Cond.initialized RJ3, Cond.code yJ3_checkIndex_8e157 cJ3_checkIndex_8e157 3 (some .int), Cond.methodLink RJx4a65c 123 yJx4a65c_elementData_915e3, Cond.instanceMethod yJx4a65c_elementData_915e3, Cond.selects RJx4a65c yJx4a65c_elementData_915e3 yJx4a65c_elementData_915e3, Cond.code yJx4a65c_elementData_915e3 cJx4a65c_elementData_915e3 2 (some (.object "java/lang/Object")), Cond.fieldLink RJx4a65c 9 "java/util/ArrayList" "elementData" "[Ljava/lang/Object;", Cond.methodLink RX6 214 yX4_takeFire, Cond.instanceMethod yX4_takeFire, Cond.selects RX4 yX4_takeFire yX4_takeFire, Cond.initialized RX4, Cond.code yX4_takeFire cX4_takeFire 3 (some .int), Cond.fieldLink RX4 18 "ResinWoods$Tree" "isBurnt" "Z", Cond.fieldLink RX4 12 "ResinWoods$Tree" "faces" "Ljava/util/List;", Cond.classLink RX4 49 "ResinWoods$Face", Cond.methodLink RX4 72 yX4_inCups, Cond.instanceMethod yX4_inCups, Cond.selects RX4 yX4_inCups yX4_inCups, Cond.code yX4_inCups cX4_inCups 3 (some .int)]
def wsX6_burn_r3 : List Cond := [Cond.fieldLink RX4 69 "ResinWoods$Face" "has" "I", Cond.methodLink RX4 39 ⟨"java/util/List", "size", "()I"⟩, Cond.methodLink RX4 45 ⟨"java/util/List", "get", "(I)Ljava/lang/Object;"⟩, Cond.methodLink RX4 75 yX1_clearCup, Cond.instanceMethod yX1_clearCup, Cond.selects RX1 yX1_clearCup yX1_clearCup, Cond.initialized RX1, Cond.code yX1_clearCup cX1_clearCup 2 none, Cond.fieldLink RX1 21 "ResinWoods$Face" "has" "I", Cond.fieldLink RX1 27 "ResinWoods$Face" "ofGrade" "[I"]
def wsX6_burn : List Cond := .code yX6_burn cX6_burn 6 (some .int) :: ((wsX6_burn_r1 ++ (wsX6_burn_r2 ++ wsX6_burn_r3)) ++ wsX50 ++ wsX60 ++ wsX40 ++ wsJx4a65c0 ++ wsX10)
def wsJ6_bitCount_0f7a4 : List Cond := .code yJ6_bitCount_0f7a4 cJ6_bitCount_0f7a4 1 (some .int) :: ([.constant RJ6 265 (1431655765), .constant RJ6 266 (858993459), .constant RJ6 267 (252645135)])
def wsX6_foreseeTree_r1 : List Cond := [Cond.fieldLink RX6 102 "ResinWoods$Tree" "isBurnt" "Z", Cond.fieldLink RX6 154 "ResinWoods$Tree" "faces" "Ljava/util/List;", Cond.fieldLink RX6 42 "ResinWoods" "planner" "LResinWoods$Planner;", Cond.fieldLink RX6 298 "ResinWoods$Planner" "cup" "LResinWoods$Face;", Cond.classLink RX6 117 "ResinWoods$Face", Cond.fieldLink RX6 46 "ResinWoods" "now" "I", Cond.fieldLink RX6 9 "ResinWoods" "warmths" "[B", Cond.fieldLink RX6 13 "ResinWoods" "rains" "[B", Cond.fieldLink RX6 306 "ResinWoods$Planner" "unread" "LResinWoods$Tally;", Cond.fieldLink RX6 309 "ResinWoods$Planner" "spills" "[[I", Cond.fieldLink RX6 313 "ResinWoods$Face" "ranOver" "I", Cond.methodLink RX6 76 ⟨"java/util/List", "size", "()I"⟩, Cond.selects RJx4a65c ⟨"java/util/List", "size", "()I"⟩ yJx4a65c_size_8abf5, Cond.instanceMethod yJx4a65c_size_8abf5, Cond.initialized RJx4a65c, Cond.code yJx4a65c_size_8abf5 cJx4a65c_size_8abf5 1 (some .int), Cond.fieldLink RJx4a65c 48 "java/util/ArrayList" "size" "I", Cond.methodLink RX6 157 ⟨"java/util/List", "get", "(I)Ljava/lang/Object;"⟩, Cond.selects RJx4a65c ⟨"java/util/List", "get", "(I)Ljava/lang/Object;"⟩ yJx4a65c_get_915e3, Cond.instanceMethod yJx4a65c_get_915e3, Cond.code yJx4a65c_get_915e3 cJx4a65c_get_915e3 2 (some (.object "java/lang/Object")), Cond.methodLink RJx4a65c 118 yJ15_checkIndex_7cf53, Cond.static yJ15_checkIndex_7cf53, Cond.initialized RJ15]
def wsX6_foreseeTree_r2 : List Cond := [Cond.code yJ15_checkIndex_7cf53 cJ15_checkIndex_7cf53 2 (some .int), Cond.methodLink RJ15 105 yJ3_checkIndex_8e157, Cond.static yJ3_checkIndex_8e157, Cond.initialized RJ3, Cond.code yJ3_checkIndex_8e157 cJ3_checkIndex_8e157 3 (some .int), Cond.methodLink RJx4a65c 123 yJx4a65c_elementData_915e3, Cond.instanceMethod yJx4a65c_elementData_915e3, Cond.selects RJx4a65c yJx4a65c_elementData_915e3 yJx4a65c_elementData_915e3, Cond.code yJx4a65c_elementData_915e3 cJx4a65c_elementData_915e3 2 (some (.object "java/lang/Object")), Cond.fieldLink RJx4a65c 9 "java/util/ArrayList" "elementData" "[Ljava/lang/Object;", Cond.methodLink RX6 302 yX1_standInFor, Cond.instanceMethod yX1_standInFor, Cond.selects RX1 yX1_standInFor yX1_standInFor, Cond.initialized RX1, Cond.code yX1_standInFor cX1_standInFor 3 none, Cond.fieldLink RX1 15 "ResinWoods$Face" "latest" "I", Cond.fieldLink RX1 18 "ResinWoods$Face" "openedIn" "I", Cond.fieldLink RX1 21 "ResinWoods$Face" "has" "I", Cond.fieldLink RX1 24 "ResinWoods$Face" "ranOver" "I", Cond.fieldLink RX1 27 "ResinWoods$Face" "ofGrade" "[I", Cond.methodLink RX6 247 yX1_endDay, Cond.instanceMethod yX1_endDay, Cond.selects RX1 yX1_endDay yX1_endDay, Cond.code yX1_endDay cX1_endDay 6 none]
def wsX6_foreseeTree_r3 : List Cond := [Cond.fieldLink RX1 35 "ResinWoods$Tally" "ran" "I", Cond.fieldLink RX1 40 "ResinWoods$Tally" "ranOver" "I", Cond.fieldLink RX1 48 "ResinWoods$Tally" "washed" "I", Cond.methodLink RX1 31 yX1_strengthOn, Cond.instanceMethod yX1_strengthOn, Cond.selects RX1 yX1_strengthOn yX1_strengthOn, Cond.code yX1_strengthOn cX1_strengthOn 3 (some .int), Cond.methodLink RX1 41 yX1_gradeOn, Cond.instanceMethod yX1_gradeOn, Cond.selects RX1 yX1_gradeOn yX1_gradeOn, Cond.code yX1_gradeOn cX1_gradeOn 2 (some .int), Cond.methodLink RX1 60 Lib.Math.min.name, Cond.static Lib.Math.min.name, Cond.initialized "java/lang/Math", Cond.code Lib.Math.min.name Lib.Math.min.code 2 (some .int), Cond.methodLink RX1 65 Lib.Math.max.name, Cond.static Lib.Math.max.name, Cond.code Lib.Math.max.name Lib.Math.max.code 2 (some .int), Cond.static yX6_yearOf, Cond.initialized RX6, Cond.code yX6_yearOf cX6_yearOf 1 (some .int), Cond.methodLink RX1 44 yX1_catchInCup, Cond.instanceMethod yX1_catchInCup, Cond.selects RX1 yX1_catchInCup yX1_catchInCup]
def wsX6_foreseeTree_r4 : List Cond := [Cond.code yX1_catchInCup cX1_catchInCup 4 (some .int), Cond.methodLink RX1 51 yX1_washBy, Cond.instanceMethod yX1_washBy, Cond.selects RX1 yX1_washBy yX1_washBy, Cond.code yX1_washBy cX1_washBy 5 (some .int)]
def wsX6_foreseeTree : List Cond := .code yX6_foreseeTree cX6_foreseeTree 6 none :: ((wsX6_foreseeTree_r1 ++ (wsX6_foreseeTree_r2 ++ (wsX6_foreseeTree_r3 ++ wsX6_foreseeTree_r4))) ++ wsX40 ++ wsX60 ++ wsX20 ++ wsX10 ++ wsJx4a65c0 ++ wsX30)
def wsX6_planWalk_r1 : List Cond := [Cond.fieldLink RX6 42 "ResinWoods" "planner" "LResinWoods$Planner;", Cond.methodLink RX6 278 yJ6_bitCount_0f7a4, Cond.static yJ6_bitCount_0f7a4, Cond.initialized RJ6, Cond.code yJ6_bitCount_0f7a4 cJ6_bitCount_0f7a4 1 (some .int), Cond.constant RJ6 265 (1431655765), Cond.constant RJ6 266 (858993459), Cond.constant RJ6 267 (252645135), Cond.methodLink RX6 69 yX6_isPlace, Cond.static yX6_isPlace, Cond.initialized RX6, Cond.code yX6_isPlace cX6_isPlace 1 (some .boolean), Cond.methodLink RX6 283 yX2_begin, Cond.instanceMethod yX2_begin, Cond.selects RX2 yX2_begin yX2_begin, Cond.initialized RX2, Cond.code yX2_begin cX2_begin 1 none, Cond.fieldLink RX2 9 "ResinWoods$Planner" "size" "I", Cond.fieldLink RX2 51 "ResinWoods$Planner" "hasBest" "Z", Cond.methodLink RX6 98 yX6_treeAt, Cond.instanceMethod yX6_treeAt, Cond.selects RX6 yX6_treeAt yX6_treeAt, Cond.code yX6_treeAt cX6_treeAt 2 (some (.object "ResinWoods$Tree")), Cond.fieldLink RX6 25 "ResinWoods" "trees" "Ljava/util/List;"]
def wsX6_planWalk_r2 : List Cond := [Cond.classLink RX6 82 "ResinWoods$Tree", Cond.methodLink RX6 76 ⟨"java/util/List", "size", "()I"⟩, Cond.selects RJx4a65c ⟨"java/util/List", "size", "()I"⟩ yJx4a65c_size_8abf5, Cond.instanceMethod yJx4a65c_size_8abf5, Cond.initialized RJx4a65c, Cond.code yJx4a65c_size_8abf5 cJx4a65c_size_8abf5 1 (some .int), Cond.fieldLink RJx4a65c 48 "java/util/ArrayList" "size" "I", Cond.methodLink RX6 157 ⟨"java/util/List", "get", "(I)Ljava/lang/Object;"⟩, Cond.selects RJx4a65c ⟨"java/util/List", "get", "(I)Ljava/lang/Object;"⟩ yJx4a65c_get_915e3, Cond.instanceMethod yJx4a65c_get_915e3, Cond.code yJx4a65c_get_915e3 cJx4a65c_get_915e3 2 (some (.object "java/lang/Object")), Cond.methodLink RJx4a65c 118 yJ15_checkIndex_7cf53, Cond.static yJ15_checkIndex_7cf53, Cond.initialized RJ15, Cond.code yJ15_checkIndex_7cf53 cJ15_checkIndex_7cf53 2 (some .int), Cond.methodLink RJ15 105 yJ3_checkIndex_8e157, Cond.static yJ3_checkIndex_8e157, Cond.initialized RJ3, Cond.code yJ3_checkIndex_8e157 cJ3_checkIndex_8e157 3 (some .int), Cond.methodLink RJx4a65c 123 yJx4a65c_elementData_915e3, Cond.instanceMethod yJx4a65c_elementData_915e3, Cond.selects RJx4a65c yJx4a65c_elementData_915e3 yJx4a65c_elementData_915e3, Cond.code yJx4a65c_elementData_915e3 cJx4a65c_elementData_915e3 2 (some (.object "java/lang/Object")), Cond.fieldLink RJx4a65c 9 "java/util/ArrayList" "elementData" "[Ljava/lang/Object;"]
def wsX6_planWalk_r3 : List Cond := [Cond.methodLink RX6 286 yX2_join, Cond.instanceMethod yX2_join, Cond.selects RX2 yX2_join yX2_join, Cond.code yX2_join cX2_join 4 (some .int), Cond.methodLink RX2 61 Lib.Math.min.name, Cond.static Lib.Math.min.name, Cond.initialized "java/lang/Math", Cond.code Lib.Math.min.name Lib.Math.min.code 2 (some .int), Cond.fieldLink RX2 15 "ResinWoods$Planner" "numbers" "[I", Cond.fieldLink RX2 67 "ResinWoods$Tree" "number" "I", Cond.fieldLink RX2 19 "ResinWoods$Planner" "places" "[I", Cond.fieldLink RX2 72 "ResinWoods$Tree" "where" "I", Cond.fieldLink RX2 24 "ResinWoods$Planner" "spills" "[[I", Cond.methodLink RX6 290 yX6_foreseeTree, Cond.instanceMethod yX6_foreseeTree, Cond.selects RX6 yX6_foreseeTree yX6_foreseeTree, Cond.code yX6_foreseeTree cX6_foreseeTree 6 none, Cond.fieldLink RX6 102 "ResinWoods$Tree" "isBurnt" "Z", Cond.fieldLink RX6 154 "ResinWoods$Tree" "faces" "Ljava/util/List;", Cond.fieldLink RX6 298 "ResinWoods$Planner" "cup" "LResinWoods$Face;", Cond.classLink RX6 117 "ResinWoods$Face", Cond.fieldLink RX6 46 "ResinWoods" "now" "I", Cond.fieldLink RX6 9 "ResinWoods" "warmths" "[B", Cond.fieldLink RX6 13 "ResinWoods" "rains" "[B"]
def wsX6_planWalk_r4 : List Cond := [Cond.fieldLink RX6 306 "ResinWoods$Planner" "unread" "LResinWoods$Tally;", Cond.fieldLink RX6 309 "ResinWoods$Planner" "spills" "[[I", Cond.fieldLink RX6 313 "ResinWoods$Face" "ranOver" "I", Cond.methodLink RX6 302 yX1_standInFor, Cond.instanceMethod yX1_standInFor, Cond.selects RX1 yX1_standInFor yX1_standInFor, Cond.initialized RX1, Cond.code yX1_standInFor cX1_standInFor 3 none, Cond.fieldLink RX1 15 "ResinWoods$Face" "latest" "I", Cond.fieldLink RX1 18 "ResinWoods$Face" "openedIn" "I", Cond.fieldLink RX1 21 "ResinWoods$Face" "has" "I", Cond.fieldLink RX1 24 "ResinWoods$Face" "ranOver" "I", Cond.fieldLink RX1 27 "ResinWoods$Face" "ofGrade" "[I", Cond.methodLink RX6 247 yX1_endDay, Cond.instanceMethod yX1_endDay, Cond.selects RX1 yX1_endDay yX1_endDay, Cond.code yX1_endDay cX1_endDay 6 none, Cond.fieldLink RX1 35 "ResinWoods$Tally" "ran" "I", Cond.fieldLink RX1 40 "ResinWoods$Tally" "ranOver" "I", Cond.fieldLink RX1 48 "ResinWoods$Tally" "washed" "I", Cond.methodLink RX1 31 yX1_strengthOn, Cond.instanceMethod yX1_strengthOn, Cond.selects RX1 yX1_strengthOn yX1_strengthOn, Cond.code yX1_strengthOn cX1_strengthOn 3 (some .int)]
def wsX6_planWalk_r5 : List Cond := [Cond.methodLink RX1 41 yX1_gradeOn, Cond.instanceMethod yX1_gradeOn, Cond.selects RX1 yX1_gradeOn yX1_gradeOn, Cond.code yX1_gradeOn cX1_gradeOn 2 (some .int), Cond.methodLink RX1 60 Lib.Math.min.name, Cond.methodLink RX1 65 Lib.Math.max.name, Cond.static Lib.Math.max.name, Cond.code Lib.Math.max.name Lib.Math.max.code 2 (some .int), Cond.static yX6_yearOf, Cond.code yX6_yearOf cX6_yearOf 1 (some .int), Cond.methodLink RX1 44 yX1_catchInCup, Cond.instanceMethod yX1_catchInCup, Cond.selects RX1 yX1_catchInCup yX1_catchInCup, Cond.code yX1_catchInCup cX1_catchInCup 4 (some .int), Cond.methodLink RX1 51 yX1_washBy, Cond.instanceMethod yX1_washBy, Cond.selects RX1 yX1_washBy yX1_washBy, Cond.code yX1_washBy cX1_washBy 5 (some .int), Cond.static yX2_visit, Cond.code yX2_visit cX2_visit 7 none, Cond.fieldLink RX2 33 "ResinWoods$Planner" "isVisited" "[Z", Cond.fieldLink RX2 27 "ResinWoods$Planner" "order" "[I", Cond.methodLink RX2 75 yX2_beatsBest, Cond.instanceMethod yX2_beatsBest]
def wsX6_planWalk_r6 : List Cond := [Cond.selects RX2 yX2_beatsBest yX2_beatsBest, Cond.code yX2_beatsBest cX2_beatsBest 3 (some .boolean), Cond.fieldLink RX2 55 "ResinWoods$Planner" "bestOver" "I", Cond.fieldLink RX2 58 "ResinWoods$Planner" "bestSteps" "I", Cond.methodLink RX2 79 yX2_keepBest, Cond.instanceMethod yX2_keepBest, Cond.selects RX2 yX2_keepBest yX2_keepBest, Cond.code yX2_keepBest cX2_keepBest 4 none, Cond.fieldLink RX2 30 "ResinWoods$Planner" "best" "[I", Cond.methodLink RX2 83 yX2_stepsBetween, Cond.static yX2_stepsBetween, Cond.code yX2_stepsBetween cX2_stepsBetween 2 (some .int), Cond.methodLink RX2 93 Lib.Math.abs.name, Cond.static Lib.Math.abs.name, Cond.code Lib.Math.abs.name Lib.Math.abs.code 1 (some .int), Cond.methodLink RX2 86 yX2_spilledBy, Cond.instanceMethod yX2_spilledBy, Cond.selects RX2 yX2_spilledBy yX2_spilledBy, Cond.code yX2_spilledBy cX2_spilledBy 3 (some .int), Cond.methodLink RX2 89 yX2_visit]
def wsX6_planWalk : List Cond := .code yX6_planWalk cX6_planWalk 8 (some .boolean) :: ((wsX6_planWalk_r1 ++ (wsX6_planWalk_r2 ++ (wsX6_planWalk_r3 ++ (wsX6_planWalk_r4 ++ (wsX6_planWalk_r5 ++ wsX6_planWalk_r6))))) ++ wsX60 ++ wsX20 ++ wsJx4a65c0 ++ wsX40 ++ wsX10 ++ wsX30)
def wsX6_walk_r1 : List Cond := [Cond.fieldLink RX6 42 "ResinWoods" "planner" "LResinWoods$Planner;", Cond.fieldLink RX6 221 "ResinWoods$Planner" "size" "I", Cond.fieldLink RX6 223 "ResinWoods$Planner" "numbers" "[I", Cond.fieldLink RX6 226 "ResinWoods$Planner" "best" "[I", Cond.methodLink RX6 217 yX6_planWalk, Cond.instanceMethod yX6_planWalk, Cond.selects RX6 yX6_planWalk yX6_planWalk, Cond.initialized RX6, Cond.code yX6_planWalk cX6_planWalk 8 (some .boolean), Cond.methodLink RX6 278 yJ6_bitCount_0f7a4, Cond.static yJ6_bitCount_0f7a4, Cond.initialized RJ6, Cond.code yJ6_bitCount_0f7a4 cJ6_bitCount_0f7a4 1 (some .int), Cond.constant RJ6 265 (1431655765), Cond.constant RJ6 266 (858993459), Cond.constant RJ6 267 (252645135), Cond.methodLink RX6 69 yX6_isPlace, Cond.static yX6_isPlace, Cond.code yX6_isPlace cX6_isPlace 1 (some .boolean), Cond.methodLink RX6 283 yX2_begin, Cond.instanceMethod yX2_begin, Cond.selects RX2 yX2_begin yX2_begin, Cond.initialized RX2, Cond.code yX2_begin cX2_begin 1 none]
def wsX6_walk_r2 : List Cond := [Cond.fieldLink RX2 9 "ResinWoods$Planner" "size" "I", Cond.fieldLink RX2 51 "ResinWoods$Planner" "hasBest" "Z", Cond.methodLink RX6 98 yX6_treeAt, Cond.instanceMethod yX6_treeAt, Cond.selects RX6 yX6_treeAt yX6_treeAt, Cond.code yX6_treeAt cX6_treeAt 2 (some (.object "ResinWoods$Tree")), Cond.fieldLink RX6 25 "ResinWoods" "trees" "Ljava/util/List;", Cond.classLink RX6 82 "ResinWoods$Tree", Cond.methodLink RX6 76 ⟨"java/util/List", "size", "()I"⟩, Cond.selects RJx4a65c ⟨"java/util/List", "size", "()I"⟩ yJx4a65c_size_8abf5, Cond.instanceMethod yJx4a65c_size_8abf5, Cond.initialized RJx4a65c, Cond.code yJx4a65c_size_8abf5 cJx4a65c_size_8abf5 1 (some .int), Cond.fieldLink RJx4a65c 48 "java/util/ArrayList" "size" "I", Cond.methodLink RX6 157 ⟨"java/util/List", "get", "(I)Ljava/lang/Object;"⟩, Cond.selects RJx4a65c ⟨"java/util/List", "get", "(I)Ljava/lang/Object;"⟩ yJx4a65c_get_915e3, Cond.instanceMethod yJx4a65c_get_915e3, Cond.code yJx4a65c_get_915e3 cJx4a65c_get_915e3 2 (some (.object "java/lang/Object")), Cond.methodLink RJx4a65c 118 yJ15_checkIndex_7cf53, Cond.static yJ15_checkIndex_7cf53, Cond.initialized RJ15, Cond.code yJ15_checkIndex_7cf53 cJ15_checkIndex_7cf53 2 (some .int), Cond.methodLink RJ15 105 yJ3_checkIndex_8e157, Cond.static yJ3_checkIndex_8e157]
def wsX6_walk_r3 : List Cond := [Cond.initialized RJ3, Cond.code yJ3_checkIndex_8e157 cJ3_checkIndex_8e157 3 (some .int), Cond.methodLink RJx4a65c 123 yJx4a65c_elementData_915e3, Cond.instanceMethod yJx4a65c_elementData_915e3, Cond.selects RJx4a65c yJx4a65c_elementData_915e3 yJx4a65c_elementData_915e3, Cond.code yJx4a65c_elementData_915e3 cJx4a65c_elementData_915e3 2 (some (.object "java/lang/Object")), Cond.fieldLink RJx4a65c 9 "java/util/ArrayList" "elementData" "[Ljava/lang/Object;", Cond.methodLink RX6 286 yX2_join, Cond.instanceMethod yX2_join, Cond.selects RX2 yX2_join yX2_join, Cond.code yX2_join cX2_join 4 (some .int), Cond.methodLink RX2 61 Lib.Math.min.name, Cond.static Lib.Math.min.name, Cond.initialized "java/lang/Math", Cond.code Lib.Math.min.name Lib.Math.min.code 2 (some .int), Cond.fieldLink RX2 15 "ResinWoods$Planner" "numbers" "[I", Cond.fieldLink RX2 67 "ResinWoods$Tree" "number" "I", Cond.fieldLink RX2 19 "ResinWoods$Planner" "places" "[I", Cond.fieldLink RX2 72 "ResinWoods$Tree" "where" "I", Cond.fieldLink RX2 24 "ResinWoods$Planner" "spills" "[[I", Cond.methodLink RX6 290 yX6_foreseeTree, Cond.instanceMethod yX6_foreseeTree, Cond.selects RX6 yX6_foreseeTree yX6_foreseeTree, Cond.code yX6_foreseeTree cX6_foreseeTree 6 none]
def wsX6_walk_r4 : List Cond := [Cond.fieldLink RX6 102 "ResinWoods$Tree" "isBurnt" "Z", Cond.fieldLink RX6 154 "ResinWoods$Tree" "faces" "Ljava/util/List;", Cond.fieldLink RX6 298 "ResinWoods$Planner" "cup" "LResinWoods$Face;", Cond.classLink RX6 117 "ResinWoods$Face", Cond.fieldLink RX6 46 "ResinWoods" "now" "I", Cond.fieldLink RX6 9 "ResinWoods" "warmths" "[B", Cond.fieldLink RX6 13 "ResinWoods" "rains" "[B", Cond.fieldLink RX6 306 "ResinWoods$Planner" "unread" "LResinWoods$Tally;", Cond.fieldLink RX6 309 "ResinWoods$Planner" "spills" "[[I", Cond.fieldLink RX6 313 "ResinWoods$Face" "ranOver" "I", Cond.methodLink RX6 302 yX1_standInFor, Cond.instanceMethod yX1_standInFor, Cond.selects RX1 yX1_standInFor yX1_standInFor, Cond.initialized RX1, Cond.code yX1_standInFor cX1_standInFor 3 none, Cond.fieldLink RX1 15 "ResinWoods$Face" "latest" "I", Cond.fieldLink RX1 18 "ResinWoods$Face" "openedIn" "I", Cond.fieldLink RX1 21 "ResinWoods$Face" "has" "I", Cond.fieldLink RX1 24 "ResinWoods$Face" "ranOver" "I", Cond.fieldLink RX1 27 "ResinWoods$Face" "ofGrade" "[I", Cond.methodLink RX6 247 yX1_endDay, Cond.instanceMethod yX1_endDay, Cond.selects RX1 yX1_endDay yX1_endDay, Cond.code yX1_endDay cX1_endDay 6 none]
def wsX6_walk_r5 : List Cond := [Cond.fieldLink RX1 35 "ResinWoods$Tally" "ran" "I", Cond.fieldLink RX1 40 "ResinWoods$Tally" "ranOver" "I", Cond.fieldLink RX1 48 "ResinWoods$Tally" "washed" "I", Cond.methodLink RX1 31 yX1_strengthOn, Cond.instanceMethod yX1_strengthOn, Cond.selects RX1 yX1_strengthOn yX1_strengthOn, Cond.code yX1_strengthOn cX1_strengthOn 3 (some .int), Cond.methodLink RX1 41 yX1_gradeOn, Cond.instanceMethod yX1_gradeOn, Cond.selects RX1 yX1_gradeOn yX1_gradeOn, Cond.code yX1_gradeOn cX1_gradeOn 2 (some .int), Cond.methodLink RX1 60 Lib.Math.min.name, Cond.methodLink RX1 65 Lib.Math.max.name, Cond.static Lib.Math.max.name, Cond.code Lib.Math.max.name Lib.Math.max.code 2 (some .int), Cond.static yX6_yearOf, Cond.code yX6_yearOf cX6_yearOf 1 (some .int), Cond.methodLink RX1 44 yX1_catchInCup, Cond.instanceMethod yX1_catchInCup, Cond.selects RX1 yX1_catchInCup yX1_catchInCup, Cond.code yX1_catchInCup cX1_catchInCup 4 (some .int), Cond.methodLink RX1 51 yX1_washBy, Cond.instanceMethod yX1_washBy, Cond.selects RX1 yX1_washBy yX1_washBy]
def wsX6_walk_r6 : List Cond := [Cond.code yX1_washBy cX1_washBy 5 (some .int), Cond.static yX2_visit, Cond.code yX2_visit cX2_visit 7 none, Cond.fieldLink RX2 33 "ResinWoods$Planner" "isVisited" "[Z", Cond.fieldLink RX2 27 "ResinWoods$Planner" "order" "[I", Cond.methodLink RX2 75 yX2_beatsBest, Cond.instanceMethod yX2_beatsBest, Cond.selects RX2 yX2_beatsBest yX2_beatsBest, Cond.code yX2_beatsBest cX2_beatsBest 3 (some .boolean), Cond.fieldLink RX2 55 "ResinWoods$Planner" "bestOver" "I", Cond.fieldLink RX2 58 "ResinWoods$Planner" "bestSteps" "I", Cond.methodLink RX2 79 yX2_keepBest, Cond.instanceMethod yX2_keepBest, Cond.selects RX2 yX2_keepBest yX2_keepBest, Cond.code yX2_keepBest cX2_keepBest 4 none, Cond.fieldLink RX2 30 "ResinWoods$Planner" "best" "[I", Cond.methodLink RX2 83 yX2_stepsBetween, Cond.static yX2_stepsBetween, Cond.code yX2_stepsBetween cX2_stepsBetween 2 (some .int), Cond.methodLink RX2 93 Lib.Math.abs.name, Cond.static Lib.Math.abs.name, Cond.code Lib.Math.abs.name Lib.Math.abs.code 1 (some .int), Cond.methodLink RX2 86 yX2_spilledBy, Cond.instanceMethod yX2_spilledBy]
def wsX6_walk_r7 : List Cond := [Cond.selects RX2 yX2_spilledBy yX2_spilledBy, Cond.code yX2_spilledBy cX2_spilledBy 3 (some .int), Cond.methodLink RX2 89 yX2_visit]
def wsX6_walk : List Cond := .code yX6_walk cX6_walk 5 (some .int) :: ((wsX6_walk_r1 ++ (wsX6_walk_r2 ++ (wsX6_walk_r3 ++ (wsX6_walk_r4 ++ (wsX6_walk_r5 ++ (wsX6_walk_r6 ++ wsX6_walk_r7)))))) ++ wsX60 ++ wsX20 ++ wsJx4a65c0 ++ wsX40 ++ wsX10 ++ wsX30)
def wsX6_walked_r1 : List Cond := [Cond.fieldLink RX6 42 "ResinWoods" "planner" "LResinWoods$Planner;", Cond.fieldLink RX6 229 "ResinWoods$Planner" "bestOver" "I", Cond.fieldLink RX6 232 "ResinWoods$Planner" "bestSteps" "I", Cond.methodLink RX6 217 yX6_planWalk, Cond.instanceMethod yX6_planWalk, Cond.selects RX6 yX6_planWalk yX6_planWalk, Cond.initialized RX6, Cond.code yX6_planWalk cX6_planWalk 8 (some .boolean), Cond.methodLink RX6 278 yJ6_bitCount_0f7a4, Cond.static yJ6_bitCount_0f7a4, Cond.initialized RJ6, Cond.code yJ6_bitCount_0f7a4 cJ6_bitCount_0f7a4 1 (some .int), Cond.constant RJ6 265 (1431655765), Cond.constant RJ6 266 (858993459), Cond.constant RJ6 267 (252645135), Cond.methodLink RX6 69 yX6_isPlace, Cond.static yX6_isPlace, Cond.code yX6_isPlace cX6_isPlace 1 (some .boolean), Cond.methodLink RX6 283 yX2_begin, Cond.instanceMethod yX2_begin, Cond.selects RX2 yX2_begin yX2_begin, Cond.initialized RX2, Cond.code yX2_begin cX2_begin 1 none, Cond.fieldLink RX2 9 "ResinWoods$Planner" "size" "I"]
def wsX6_walked_r2 : List Cond := [Cond.fieldLink RX2 51 "ResinWoods$Planner" "hasBest" "Z", Cond.methodLink RX6 98 yX6_treeAt, Cond.instanceMethod yX6_treeAt, Cond.selects RX6 yX6_treeAt yX6_treeAt, Cond.code yX6_treeAt cX6_treeAt 2 (some (.object "ResinWoods$Tree")), Cond.fieldLink RX6 25 "ResinWoods" "trees" "Ljava/util/List;", Cond.classLink RX6 82 "ResinWoods$Tree", Cond.methodLink RX6 76 ⟨"java/util/List", "size", "()I"⟩, Cond.selects RJx4a65c ⟨"java/util/List", "size", "()I"⟩ yJx4a65c_size_8abf5, Cond.instanceMethod yJx4a65c_size_8abf5, Cond.initialized RJx4a65c, Cond.code yJx4a65c_size_8abf5 cJx4a65c_size_8abf5 1 (some .int), Cond.fieldLink RJx4a65c 48 "java/util/ArrayList" "size" "I", Cond.methodLink RX6 157 ⟨"java/util/List", "get", "(I)Ljava/lang/Object;"⟩, Cond.selects RJx4a65c ⟨"java/util/List", "get", "(I)Ljava/lang/Object;"⟩ yJx4a65c_get_915e3, Cond.instanceMethod yJx4a65c_get_915e3, Cond.code yJx4a65c_get_915e3 cJx4a65c_get_915e3 2 (some (.object "java/lang/Object")), Cond.methodLink RJx4a65c 118 yJ15_checkIndex_7cf53, Cond.static yJ15_checkIndex_7cf53, Cond.initialized RJ15, Cond.code yJ15_checkIndex_7cf53 cJ15_checkIndex_7cf53 2 (some .int), Cond.methodLink RJ15 105 yJ3_checkIndex_8e157, Cond.static yJ3_checkIndex_8e157, Cond.initialized RJ3]
def wsX6_walked_r3 : List Cond := [Cond.code yJ3_checkIndex_8e157 cJ3_checkIndex_8e157 3 (some .int), Cond.methodLink RJx4a65c 123 yJx4a65c_elementData_915e3, Cond.instanceMethod yJx4a65c_elementData_915e3, Cond.selects RJx4a65c yJx4a65c_elementData_915e3 yJx4a65c_elementData_915e3, Cond.code yJx4a65c_elementData_915e3 cJx4a65c_elementData_915e3 2 (some (.object "java/lang/Object")), Cond.fieldLink RJx4a65c 9 "java/util/ArrayList" "elementData" "[Ljava/lang/Object;", Cond.methodLink RX6 286 yX2_join, Cond.instanceMethod yX2_join, Cond.selects RX2 yX2_join yX2_join, Cond.code yX2_join cX2_join 4 (some .int), Cond.methodLink RX2 61 Lib.Math.min.name, Cond.static Lib.Math.min.name, Cond.initialized "java/lang/Math", Cond.code Lib.Math.min.name Lib.Math.min.code 2 (some .int), Cond.fieldLink RX2 15 "ResinWoods$Planner" "numbers" "[I", Cond.fieldLink RX2 67 "ResinWoods$Tree" "number" "I", Cond.fieldLink RX2 19 "ResinWoods$Planner" "places" "[I", Cond.fieldLink RX2 72 "ResinWoods$Tree" "where" "I", Cond.fieldLink RX2 24 "ResinWoods$Planner" "spills" "[[I", Cond.methodLink RX6 290 yX6_foreseeTree, Cond.instanceMethod yX6_foreseeTree, Cond.selects RX6 yX6_foreseeTree yX6_foreseeTree, Cond.code yX6_foreseeTree cX6_foreseeTree 6 none, Cond.fieldLink RX6 102 "ResinWoods$Tree" "isBurnt" "Z"]
def wsX6_walked_r4 : List Cond := [Cond.fieldLink RX6 154 "ResinWoods$Tree" "faces" "Ljava/util/List;", Cond.fieldLink RX6 298 "ResinWoods$Planner" "cup" "LResinWoods$Face;", Cond.classLink RX6 117 "ResinWoods$Face", Cond.fieldLink RX6 46 "ResinWoods" "now" "I", Cond.fieldLink RX6 9 "ResinWoods" "warmths" "[B", Cond.fieldLink RX6 13 "ResinWoods" "rains" "[B", Cond.fieldLink RX6 306 "ResinWoods$Planner" "unread" "LResinWoods$Tally;", Cond.fieldLink RX6 309 "ResinWoods$Planner" "spills" "[[I", Cond.fieldLink RX6 313 "ResinWoods$Face" "ranOver" "I", Cond.methodLink RX6 302 yX1_standInFor, Cond.instanceMethod yX1_standInFor, Cond.selects RX1 yX1_standInFor yX1_standInFor, Cond.initialized RX1, Cond.code yX1_standInFor cX1_standInFor 3 none, Cond.fieldLink RX1 15 "ResinWoods$Face" "latest" "I", Cond.fieldLink RX1 18 "ResinWoods$Face" "openedIn" "I", Cond.fieldLink RX1 21 "ResinWoods$Face" "has" "I", Cond.fieldLink RX1 24 "ResinWoods$Face" "ranOver" "I", Cond.fieldLink RX1 27 "ResinWoods$Face" "ofGrade" "[I", Cond.methodLink RX6 247 yX1_endDay, Cond.instanceMethod yX1_endDay, Cond.selects RX1 yX1_endDay yX1_endDay, Cond.code yX1_endDay cX1_endDay 6 none, Cond.fieldLink RX1 35 "ResinWoods$Tally" "ran" "I"]
def wsX6_walked_r5 : List Cond := [Cond.fieldLink RX1 40 "ResinWoods$Tally" "ranOver" "I", Cond.fieldLink RX1 48 "ResinWoods$Tally" "washed" "I", Cond.methodLink RX1 31 yX1_strengthOn, Cond.instanceMethod yX1_strengthOn, Cond.selects RX1 yX1_strengthOn yX1_strengthOn, Cond.code yX1_strengthOn cX1_strengthOn 3 (some .int), Cond.methodLink RX1 41 yX1_gradeOn, Cond.instanceMethod yX1_gradeOn, Cond.selects RX1 yX1_gradeOn yX1_gradeOn, Cond.code yX1_gradeOn cX1_gradeOn 2 (some .int), Cond.methodLink RX1 60 Lib.Math.min.name, Cond.methodLink RX1 65 Lib.Math.max.name, Cond.static Lib.Math.max.name, Cond.code Lib.Math.max.name Lib.Math.max.code 2 (some .int), Cond.static yX6_yearOf, Cond.code yX6_yearOf cX6_yearOf 1 (some .int), Cond.methodLink RX1 44 yX1_catchInCup, Cond.instanceMethod yX1_catchInCup, Cond.selects RX1 yX1_catchInCup yX1_catchInCup, Cond.code yX1_catchInCup cX1_catchInCup 4 (some .int), Cond.methodLink RX1 51 yX1_washBy, Cond.instanceMethod yX1_washBy, Cond.selects RX1 yX1_washBy yX1_washBy, Cond.code yX1_washBy cX1_washBy 5 (some .int)]
def wsX6_walked_r6 : List Cond := [Cond.static yX2_visit, Cond.code yX2_visit cX2_visit 7 none, Cond.fieldLink RX2 33 "ResinWoods$Planner" "isVisited" "[Z", Cond.fieldLink RX2 27 "ResinWoods$Planner" "order" "[I", Cond.methodLink RX2 75 yX2_beatsBest, Cond.instanceMethod yX2_beatsBest, Cond.selects RX2 yX2_beatsBest yX2_beatsBest, Cond.code yX2_beatsBest cX2_beatsBest 3 (some .boolean), Cond.fieldLink RX2 55 "ResinWoods$Planner" "bestOver" "I", Cond.fieldLink RX2 58 "ResinWoods$Planner" "bestSteps" "I", Cond.methodLink RX2 79 yX2_keepBest, Cond.instanceMethod yX2_keepBest, Cond.selects RX2 yX2_keepBest yX2_keepBest, Cond.code yX2_keepBest cX2_keepBest 4 none, Cond.fieldLink RX2 30 "ResinWoods$Planner" "best" "[I", Cond.methodLink RX2 83 yX2_stepsBetween, Cond.static yX2_stepsBetween, Cond.code yX2_stepsBetween cX2_stepsBetween 2 (some .int), Cond.methodLink RX2 93 Lib.Math.abs.name, Cond.static Lib.Math.abs.name, Cond.code Lib.Math.abs.name Lib.Math.abs.code 1 (some .int), Cond.methodLink RX2 86 yX2_spilledBy, Cond.instanceMethod yX2_spilledBy, Cond.selects RX2 yX2_spilledBy yX2_spilledBy]
def wsX6_walked_r7 : List Cond := [Cond.code yX2_spilledBy cX2_spilledBy 3 (some .int), Cond.methodLink RX2 89 yX2_visit]
def wsX6_walked : List Cond := .code yX6_walked cX6_walked 5 (some .int) :: ((wsX6_walked_r1 ++ (wsX6_walked_r2 ++ (wsX6_walked_r3 ++ (wsX6_walked_r4 ++ (wsX6_walked_r5 ++ (wsX6_walked_r6 ++ wsX6_walked_r7)))))) ++ wsX60 ++ wsX20 ++ wsJx4a65c0 ++ wsX40 ++ wsX10 ++ wsX30)
def wsX6_inAllCups_r1 : List Cond := [Cond.fieldLink RX6 25 "ResinWoods" "trees" "Ljava/util/List;", Cond.classLink RX6 82 "ResinWoods$Tree", Cond.methodLink RX6 76 ⟨"java/util/List", "size", "()I"⟩, Cond.selects RJx4a65c ⟨"java/util/List", "size", "()I"⟩ yJx4a65c_size_8abf5, Cond.instanceMethod yJx4a65c_size_8abf5, Cond.initialized RJx4a65c, Cond.code yJx4a65c_size_8abf5 cJx4a65c_size_8abf5 1 (some .int), Cond.fieldLink RJx4a65c 48 "java/util/ArrayList" "size" "I", Cond.methodLink RX6 157 ⟨"java/util/List", "get", "(I)Ljava/lang/Object;"⟩, Cond.selects RJx4a65c ⟨"java/util/List", "get", "(I)Ljava/lang/Object;"⟩ yJx4a65c_get_915e3, Cond.instanceMethod yJx4a65c_get_915e3, Cond.code yJx4a65c_get_915e3 cJx4a65c_get_915e3 2 (some (.object "java/lang/Object")), Cond.methodLink RJx4a65c 118 yJ15_checkIndex_7cf53, Cond.static yJ15_checkIndex_7cf53, Cond.initialized RJ15, Cond.code yJ15_checkIndex_7cf53 cJ15_checkIndex_7cf53 2 (some .int), Cond.methodLink RJ15 105 yJ3_checkIndex_8e157, Cond.static yJ3_checkIndex_8e157, Cond.initialized RJ3, Cond.code yJ3_checkIndex_8e157 cJ3_checkIndex_8e157 3 (some .int), Cond.methodLink RJx4a65c 123 yJx4a65c_elementData_915e3, Cond.instanceMethod yJx4a65c_elementData_915e3, Cond.selects RJx4a65c yJx4a65c_elementData_915e3 yJx4a65c_elementData_915e3, Cond.code yJx4a65c_elementData_915e3 cJx4a65c_elementData_915e3 2 (some (.object "java/lang/Object"))]
def wsX6_inAllCups_r2 : List Cond := [Cond.fieldLink RJx4a65c 9 "java/util/ArrayList" "elementData" "[Ljava/lang/Object;", Cond.methodLink RX6 143 yX4_inCups, Cond.instanceMethod yX4_inCups, Cond.selects RX4 yX4_inCups yX4_inCups, Cond.initialized RX4, Cond.code yX4_inCups cX4_inCups 3 (some .int), Cond.fieldLink RX4 12 "ResinWoods$Tree" "faces" "Ljava/util/List;", Cond.classLink RX4 49 "ResinWoods$Face", Cond.fieldLink RX4 69 "ResinWoods$Face" "has" "I", Cond.methodLink RX4 39 ⟨"java/util/List", "size", "()I"⟩, Cond.methodLink RX4 45 ⟨"java/util/List", "get", "(I)Ljava/lang/Object;"⟩]
def wsX6_inAllCups : List Cond := .code yX6_inAllCups cX6_inAllCups 3 (some .int) :: ((wsX6_inAllCups_r1 ++ wsX6_inAllCups_r2) ++ wsX60 ++ wsJx4a65c0 ++ wsX40 ++ wsX10)
def wsX6_count_r1 : List Cond := [Cond.fieldLink RX6 46 "ResinWoods" "now" "I", Cond.fieldLink RX6 25 "ResinWoods" "trees" "Ljava/util/List;", Cond.fieldLink RX6 29 "ResinWoods" "barrels" "Ljava/util/List;", Cond.fieldLink RX6 35 "ResinWoods" "tally" "LResinWoods$Tally;", Cond.fieldLink RX6 235 "ResinWoods$Tally" "ran" "I", Cond.fieldLink RX6 238 "ResinWoods$Tally" "ranOver" "I", Cond.fieldLink RX6 241 "ResinWoods$Tally" "washed" "I", Cond.fieldLink RX6 53 "ResinWoods" "burnt" "I", Cond.fieldLink RX6 50 "ResinWoods" "emptied" "I", Cond.fieldLink RX6 56 "ResinWoods" "spirit" "I", Cond.fieldLink RX6 59 "ResinWoods" "rosin" "I", Cond.methodLink RX6 76 ⟨"java/util/List", "size", "()I"⟩, Cond.selects RJx4a65c ⟨"java/util/List", "size", "()I"⟩ yJx4a65c_size_8abf5, Cond.instanceMethod yJx4a65c_size_8abf5, Cond.initialized RJx4a65c, Cond.code yJx4a65c_size_8abf5 cJx4a65c_size_8abf5 1 (some .int), Cond.fieldLink RJx4a65c 48 "java/util/ArrayList" "size" "I", Cond.methodLink RX6 244 yX6_inAllCups, Cond.instanceMethod yX6_inAllCups, Cond.selects RX6 yX6_inAllCups yX6_inAllCups, Cond.initialized RX6, Cond.code yX6_inAllCups cX6_inAllCups 3 (some .int), Cond.classLink RX6 82 "ResinWoods$Tree", Cond.methodLink RX6 157 ⟨"java/util/List", "get", "(I)Ljava/lang/Object;"⟩]
def wsX6_count_r2 : List Cond := [Cond.selects RJx4a65c ⟨"java/util/List", "get", "(I)Ljava/lang/Object;"⟩ yJx4a65c_get_915e3, Cond.instanceMethod yJx4a65c_get_915e3, Cond.code yJx4a65c_get_915e3 cJx4a65c_get_915e3 2 (some (.object "java/lang/Object")), Cond.methodLink RJx4a65c 118 yJ15_checkIndex_7cf53, Cond.static yJ15_checkIndex_7cf53, Cond.initialized RJ15, Cond.code yJ15_checkIndex_7cf53 cJ15_checkIndex_7cf53 2 (some .int), Cond.methodLink RJ15 105 yJ3_checkIndex_8e157, Cond.static yJ3_checkIndex_8e157, Cond.initialized RJ3, Cond.code yJ3_checkIndex_8e157 cJ3_checkIndex_8e157 3 (some .int), Cond.methodLink RJx4a65c 123 yJx4a65c_elementData_915e3, Cond.instanceMethod yJx4a65c_elementData_915e3, Cond.selects RJx4a65c yJx4a65c_elementData_915e3 yJx4a65c_elementData_915e3, Cond.code yJx4a65c_elementData_915e3 cJx4a65c_elementData_915e3 2 (some (.object "java/lang/Object")), Cond.fieldLink RJx4a65c 9 "java/util/ArrayList" "elementData" "[Ljava/lang/Object;", Cond.methodLink RX6 143 yX4_inCups, Cond.instanceMethod yX4_inCups, Cond.selects RX4 yX4_inCups yX4_inCups, Cond.initialized RX4, Cond.code yX4_inCups cX4_inCups 3 (some .int), Cond.fieldLink RX4 12 "ResinWoods$Tree" "faces" "Ljava/util/List;", Cond.classLink RX4 49 "ResinWoods$Face", Cond.fieldLink RX4 69 "ResinWoods$Face" "has" "I"]
def wsX6_count_r3 : List Cond := [Cond.methodLink RX4 39 ⟨"java/util/List", "size", "()I"⟩, Cond.methodLink RX4 45 ⟨"java/util/List", "get", "(I)Ljava/lang/Object;"⟩]
def wsX6_count : List Cond := .code yX6_count cX6_count 2 (some .int) :: ((wsX6_count_r1 ++ (wsX6_count_r2 ++ wsX6_count_r3)) ++ wsX60 ++ wsX30 ++ wsJx4a65c0 ++ wsX40 ++ wsX10)
def wsX7_init_r1 : List Cond := [Cond.methodLink RX7 1 objectInit, Cond.instanceMethod objectInit, Cond.code objectInit ⟨#[0xb1]⟩ 1 none, Cond.arrayClass .int, Cond.fieldLink RX7 9 "ResinWoodsModel" "warmth" "[I", Cond.fieldLink RX7 13 "ResinWoodsModel" "rain" "[I", Cond.fieldLink RX7 16 "ResinWoodsModel" "wood" "[I", Cond.fieldLink RX7 19 "ResinWoodsModel" "placeX" "[I", Cond.fieldLink RX7 22 "ResinWoodsModel" "placeY" "[I", Cond.fieldLink RX7 25 "ResinWoodsModel" "girth" "[I", Cond.arrayClass .boolean, Cond.fieldLink RX7 28 "ResinWoodsModel" "isBurnt" "[Z", Cond.fieldLink RX7 32 "ResinWoodsModel" "opened" "[I", Cond.fieldLink RX7 35 "ResinWoodsModel" "years" "[I", Cond.fieldLink RX7 38 "ResinWoodsModel" "streaks" "[I", Cond.fieldLink RX7 41 "ResinWoodsModel" "latest" "[I", Cond.fieldLink RX7 44 "ResinWoodsModel" "openYear" "[I", Cond.fieldLink RX7 47 "ResinWoodsModel" "cups" "[I", Cond.fieldLink RX7 50 "ResinWoodsModel" "overOf" "[I", Cond.fieldLink RX7 53 "ResinWoodsModel" "barrelWood" "[I", Cond.fieldLink RX7 56 "ResinWoodsModel" "barrelHas" "[I", Cond.fieldLink RX7 59 "ResinWoodsModel" "barrelFrom" "[I", Cond.fieldLink RX7 62 "ResinWoodsModel" "isStilled" "[Z", Cond.fieldLink RX7 65 "ResinWoodsModel" "isPaid" "[Z"]
def wsX7_init_r2 : List Cond := [Cond.fieldLink RX7 68 "ResinWoodsModel" "isLet" "[Z", Cond.fieldLink RX7 71 "ResinWoodsModel" "rent" "[I", Cond.fieldLink RX7 74 "ResinWoodsModel" "taken" "[I", Cond.fieldLink RX7 77 "ResinWoodsModel" "paid" "[I", Cond.fieldLink RX7 80 "ResinWoodsModel" "chosen" "[I", Cond.fieldLink RX7 83 "ResinWoodsModel" "runsOver" "[I", Cond.fieldLink RX7 86 "ResinWoodsModel" "order" "[I", Cond.fieldLink RX7 89 "ResinWoodsModel" "best" "[I"]
def wsX7_init : List Cond := .code yX7_init cX7_init 2 none :: ((wsX7_init_r1 ++ wsX7_init_r2) ++ wsX70)
def wsX7_in : List Cond := .code yX7_in cX7_in 3 (some .boolean) :: ([])
def wsX7_isTree : List Cond := .code yX7_isTree cX7_isTree 2 (some .boolean) :: ([.fieldLink RX7 92 "ResinWoodsModel" "trees" "I", .methodLink RX7 96 yX7_in, .static yX7_in, .initialized RX7, .code yX7_in cX7_in 3 (some .boolean)] ++ wsX70)
def wsX7_tree : List Cond := .code yX7_tree cX7_tree 4 (some .int) :: ([.fieldLink RX7 92 "ResinWoodsModel" "trees" "I", .fieldLink RX7 16 "ResinWoodsModel" "wood" "[I", .fieldLink RX7 19 "ResinWoodsModel" "placeX" "[I", .fieldLink RX7 22 "ResinWoodsModel" "placeY" "[I", .fieldLink RX7 25 "ResinWoodsModel" "girth" "[I", .methodLink RX7 96 yX7_in, .static yX7_in, .initialized RX7, .code yX7_in cX7_in 3 (some .boolean)] ++ wsX70)
def wsX7_bears : List Cond := .code yX7_bears cX7_bears 2 (some .int) :: ([.methodLink RX7 96 yX7_in, .static yX7_in, .initialized RX7, .code yX7_in cX7_in 3 (some .boolean)])
def wsX7_weather : List Cond := .code yX7_weather cX7_weather 6 (some .boolean) :: ([.fieldLink RX7 100 "ResinWoodsModel" "now" "I", .fieldLink RX7 9 "ResinWoodsModel" "warmth" "[I", .fieldLink RX7 13 "ResinWoodsModel" "rain" "[I", .methodLink RX7 96 yX7_in, .static yX7_in, .initialized RX7, .code yX7_in cX7_in 3 (some .boolean)] ++ wsX70)
def wsX7_rests : List Cond := .code yX7_rests cX7_rests 5 (some .boolean) :: ([.fieldLink RX7 100 "ResinWoodsModel" "now" "I", .fieldLink RX7 35 "ResinWoodsModel" "years" "[I", .methodLink RX7 103 yX7_isTree, .instanceMethod yX7_isTree, .selects RX7 yX7_isTree yX7_isTree, .initialized RX7, .code yX7_isTree cX7_isTree 2 (some .boolean), .fieldLink RX7 92 "ResinWoodsModel" "trees" "I", .methodLink RX7 96 yX7_in, .static yX7_in, .code yX7_in cX7_in 3 (some .boolean)] ++ wsX70)
def wsX7_cut_r1 : List Cond := [Cond.fieldLink RX7 28 "ResinWoodsModel" "isBurnt" "[Z", Cond.fieldLink RX7 32 "ResinWoodsModel" "opened" "[I", Cond.fieldLink RX7 25 "ResinWoodsModel" "girth" "[I", Cond.fieldLink RX7 100 "ResinWoodsModel" "now" "I", Cond.fieldLink RX7 41 "ResinWoodsModel" "latest" "[I", Cond.fieldLink RX7 38 "ResinWoodsModel" "streaks" "[I", Cond.fieldLink RX7 44 "ResinWoodsModel" "openYear" "[I", Cond.fieldLink RX7 35 "ResinWoodsModel" "years" "[I", Cond.methodLink RX7 103 yX7_isTree, Cond.instanceMethod yX7_isTree, Cond.selects RX7 yX7_isTree yX7_isTree, Cond.initialized RX7, Cond.code yX7_isTree cX7_isTree 2 (some .boolean), Cond.fieldLink RX7 92 "ResinWoodsModel" "trees" "I", Cond.methodLink RX7 96 yX7_in, Cond.static yX7_in, Cond.code yX7_in cX7_in 3 (some .boolean), Cond.methodLink RX7 107 yX7_rests, Cond.instanceMethod yX7_rests, Cond.selects RX7 yX7_rests yX7_rests, Cond.code yX7_rests cX7_rests 5 (some .boolean), Cond.methodLink RX7 110 yX7_bears, Cond.instanceMethod yX7_bears, Cond.selects RX7 yX7_bears yX7_bears]
def wsX7_cut_r2 : List Cond := [Cond.code yX7_bears cX7_bears 2 (some .int)]
def wsX7_cut : List Cond := .code yX7_cut cX7_cut 4 (some .int) :: ((wsX7_cut_r1 ++ wsX7_cut_r2) ++ wsX70)
def wsX7_strength : List Cond := .code yX7_strength cX7_strength 1 (some .int) :: ([])
def wsX7_inCup : List Cond := .code yX7_inCup cX7_inCup 4 (some .int) :: ([.fieldLink RX7 47 "ResinWoodsModel" "cups" "[I"] ++ wsX70)
def wsX7_gradeOf : List Cond := .code yX7_gradeOf cX7_gradeOf 4 (some .int) :: ([.fieldLink RX7 44 "ResinWoodsModel" "openYear" "[I"] ++ wsX70)
def wsX7_runs : List Cond := .code yX7_runs cX7_runs 5 none :: ([.fieldLink RX7 9 "ResinWoodsModel" "warmth" "[I", .fieldLink RX7 100 "ResinWoodsModel" "now" "I", .fieldLink RX7 41 "ResinWoodsModel" "latest" "[I", .fieldLink RX7 47 "ResinWoodsModel" "cups" "[I", .fieldLink RX7 50 "ResinWoodsModel" "overOf" "[I", .fieldLink RX7 131 "ResinWoodsModel" "over" "I", .fieldLink RX7 134 "ResinWoodsModel" "ran" "I", .methodLink RX7 121 yX7_strength, .static yX7_strength, .initialized RX7, .code yX7_strength cX7_strength 1 (some .int), .methodLink RX7 124 yX7_inCup, .instanceMethod yX7_inCup, .selects RX7 yX7_inCup yX7_inCup, .code yX7_inCup cX7_inCup 4 (some .int), .methodLink RX7 127 yX7_gradeOf, .instanceMethod yX7_gradeOf, .selects RX7 yX7_gradeOf yX7_gradeOf, .code yX7_gradeOf cX7_gradeOf 4 (some .int), .fieldLink RX7 44 "ResinWoodsModel" "openYear" "[I"] ++ wsX70)
def wsX7_washes : List Cond := .code yX7_washes cX7_washes 4 none :: ([.fieldLink RX7 47 "ResinWoodsModel" "cups" "[I", .fieldLink RX7 13 "ResinWoodsModel" "rain" "[I", .fieldLink RX7 100 "ResinWoodsModel" "now" "I", .fieldLink RX7 137 "ResinWoodsModel" "washed" "I"] ++ wsX70)
def wsX7_go_r1 : List Cond := [Cond.fieldLink RX7 100 "ResinWoodsModel" "now" "I", Cond.fieldLink RX7 92 "ResinWoodsModel" "trees" "I", Cond.fieldLink RX7 32 "ResinWoodsModel" "opened" "[I", Cond.fieldLink RX7 28 "ResinWoodsModel" "isBurnt" "[Z", Cond.methodLink RX7 96 yX7_in, Cond.static yX7_in, Cond.initialized RX7, Cond.code yX7_in cX7_in 3 (some .boolean), Cond.methodLink RX7 114 yX7_runs, Cond.instanceMethod yX7_runs, Cond.selects RX7 yX7_runs yX7_runs, Cond.code yX7_runs cX7_runs 5 none, Cond.fieldLink RX7 9 "ResinWoodsModel" "warmth" "[I", Cond.fieldLink RX7 41 "ResinWoodsModel" "latest" "[I", Cond.fieldLink RX7 47 "ResinWoodsModel" "cups" "[I", Cond.fieldLink RX7 50 "ResinWoodsModel" "overOf" "[I", Cond.fieldLink RX7 131 "ResinWoodsModel" "over" "I", Cond.fieldLink RX7 134 "ResinWoodsModel" "ran" "I", Cond.methodLink RX7 121 yX7_strength, Cond.static yX7_strength, Cond.code yX7_strength cX7_strength 1 (some .int), Cond.methodLink RX7 124 yX7_inCup, Cond.instanceMethod yX7_inCup, Cond.selects RX7 yX7_inCup yX7_inCup]
def wsX7_go_r2 : List Cond := [Cond.code yX7_inCup cX7_inCup 4 (some .int), Cond.methodLink RX7 127 yX7_gradeOf, Cond.instanceMethod yX7_gradeOf, Cond.selects RX7 yX7_gradeOf yX7_gradeOf, Cond.code yX7_gradeOf cX7_gradeOf 4 (some .int), Cond.fieldLink RX7 44 "ResinWoodsModel" "openYear" "[I", Cond.methodLink RX7 118 yX7_washes, Cond.instanceMethod yX7_washes, Cond.selects RX7 yX7_washes yX7_washes, Cond.code yX7_washes cX7_washes 4 none, Cond.fieldLink RX7 13 "ResinWoodsModel" "rain" "[I", Cond.fieldLink RX7 137 "ResinWoodsModel" "washed" "I"]
def wsX7_go : List Cond := .code yX7_go cX7_go 5 (some .int) :: ((wsX7_go_r1 ++ wsX7_go_r2) ++ wsX70)
def wsX7_face : List Cond := .code yX7_face cX7_face 5 (some .int) :: ([.fieldLink RX7 32 "ResinWoodsModel" "opened" "[I", .fieldLink RX7 47 "ResinWoodsModel" "cups" "[I", .fieldLink RX7 38 "ResinWoodsModel" "streaks" "[I", .fieldLink RX7 41 "ResinWoodsModel" "latest" "[I", .fieldLink RX7 44 "ResinWoodsModel" "openYear" "[I", .fieldLink RX7 50 "ResinWoodsModel" "overOf" "[I", .methodLink RX7 103 yX7_isTree, .instanceMethod yX7_isTree, .selects RX7 yX7_isTree yX7_isTree, .initialized RX7, .code yX7_isTree cX7_isTree 2 (some .boolean), .fieldLink RX7 92 "ResinWoodsModel" "trees" "I", .methodLink RX7 96 yX7_in, .static yX7_in, .code yX7_in cX7_in 3 (some .boolean), .methodLink RX7 124 yX7_inCup, .instanceMethod yX7_inCup, .selects RX7 yX7_inCup yX7_inCup, .code yX7_inCup cX7_inCup 4 (some .int)] ++ wsX70)
def wsX7_has : List Cond := .code yX7_has cX7_has 4 (some .int) :: ([.fieldLink RX7 56 "ResinWoodsModel" "barrelHas" "[I"] ++ wsX70)
def wsX7_isFull : List Cond := .code yX7_isFull cX7_isFull 2 (some .boolean) :: ([.fieldLink RX7 62 "ResinWoodsModel" "isStilled" "[Z", .fieldLink RX7 65 "ResinWoodsModel" "isPaid" "[Z", .methodLink RX7 140 yX7_has, .instanceMethod yX7_has, .selects RX7 yX7_has yX7_has, .initialized RX7, .code yX7_has cX7_has 4 (some .int), .fieldLink RX7 56 "ResinWoodsModel" "barrelHas" "[I"] ++ wsX70)
def wsX7_room : List Cond := .code yX7_room cX7_room 4 (some .int) :: ([.fieldLink RX7 143 "ResinWoodsModel" "barrels" "I", .fieldLink RX7 53 "ResinWoodsModel" "barrelWood" "[I", .methodLink RX7 146 yX7_isFull, .instanceMethod yX7_isFull, .selects RX7 yX7_isFull yX7_isFull, .initialized RX7, .code yX7_isFull cX7_isFull 2 (some .boolean), .fieldLink RX7 62 "ResinWoodsModel" "isStilled" "[Z", .fieldLink RX7 65 "ResinWoodsModel" "isPaid" "[Z", .methodLink RX7 140 yX7_has, .instanceMethod yX7_has, .selects RX7 yX7_has yX7_has, .code yX7_has cX7_has 4 (some .int), .fieldLink RX7 56 "ResinWoodsModel" "barrelHas" "[I"] ++ wsX70)
def wsX7_fills : List Cond := .code yX7_fills cX7_fills 8 none :: ([.fieldLink RX7 143 "ResinWoodsModel" "barrels" "I", .fieldLink RX7 53 "ResinWoodsModel" "barrelWood" "[I", .fieldLink RX7 16 "ResinWoodsModel" "wood" "[I", .fieldLink RX7 56 "ResinWoodsModel" "barrelHas" "[I", .fieldLink RX7 59 "ResinWoodsModel" "barrelFrom" "[I", .methodLink RX7 146 yX7_isFull, .instanceMethod yX7_isFull, .selects RX7 yX7_isFull yX7_isFull, .initialized RX7, .code yX7_isFull cX7_isFull 2 (some .boolean), .fieldLink RX7 62 "ResinWoodsModel" "isStilled" "[Z", .fieldLink RX7 65 "ResinWoodsModel" "isPaid" "[Z", .methodLink RX7 140 yX7_has, .instanceMethod yX7_has, .selects RX7 yX7_has yX7_has, .code yX7_has cX7_has 4 (some .int)] ++ wsX70)
def wsX7_empty_r1 : List Cond := [Cond.fieldLink RX7 32 "ResinWoodsModel" "opened" "[I", Cond.fieldLink RX7 16 "ResinWoodsModel" "wood" "[I", Cond.fieldLink RX7 143 "ResinWoodsModel" "barrels" "I", Cond.fieldLink RX7 47 "ResinWoodsModel" "cups" "[I", Cond.fieldLink RX7 156 "ResinWoodsModel" "emptied" "I", Cond.fieldLink RX7 74 "ResinWoodsModel" "taken" "[I", Cond.methodLink RX7 103 yX7_isTree, Cond.instanceMethod yX7_isTree, Cond.selects RX7 yX7_isTree yX7_isTree, Cond.initialized RX7, Cond.code yX7_isTree cX7_isTree 2 (some .boolean), Cond.fieldLink RX7 92 "ResinWoodsModel" "trees" "I", Cond.methodLink RX7 96 yX7_in, Cond.static yX7_in, Cond.code yX7_in cX7_in 3 (some .boolean), Cond.methodLink RX7 124 yX7_inCup, Cond.instanceMethod yX7_inCup, Cond.selects RX7 yX7_inCup yX7_inCup, Cond.code yX7_inCup cX7_inCup 4 (some .int), Cond.methodLink RX7 149 yX7_room, Cond.instanceMethod yX7_room, Cond.selects RX7 yX7_room yX7_room, Cond.code yX7_room cX7_room 4 (some .int), Cond.fieldLink RX7 53 "ResinWoodsModel" "barrelWood" "[I"]
def wsX7_empty_r2 : List Cond := [Cond.methodLink RX7 146 yX7_isFull, Cond.instanceMethod yX7_isFull, Cond.selects RX7 yX7_isFull yX7_isFull, Cond.code yX7_isFull cX7_isFull 2 (some .boolean), Cond.fieldLink RX7 62 "ResinWoodsModel" "isStilled" "[Z", Cond.fieldLink RX7 65 "ResinWoodsModel" "isPaid" "[Z", Cond.methodLink RX7 140 yX7_has, Cond.instanceMethod yX7_has, Cond.selects RX7 yX7_has yX7_has, Cond.code yX7_has cX7_has 4 (some .int), Cond.fieldLink RX7 56 "ResinWoodsModel" "barrelHas" "[I", Cond.methodLink RX7 152 yX7_fills, Cond.instanceMethod yX7_fills, Cond.selects RX7 yX7_fills yX7_fills, Cond.code yX7_fills cX7_fills 8 none, Cond.fieldLink RX7 59 "ResinWoodsModel" "barrelFrom" "[I"]
def wsX7_empty : List Cond := .code yX7_empty cX7_empty 6 (some .int) :: ((wsX7_empty_r1 ++ wsX7_empty_r2) ++ wsX70)
def wsX7_isBarrel : List Cond := .code yX7_isBarrel cX7_isBarrel 2 (some .boolean) :: ([.fieldLink RX7 143 "ResinWoodsModel" "barrels" "I", .methodLink RX7 96 yX7_in, .static yX7_in, .initialized RX7, .code yX7_in cX7_in 3 (some .boolean)] ++ wsX70)
def wsX7_grade : List Cond := .code yX7_grade cX7_grade 4 (some .int) :: ([.fieldLink RX7 56 "ResinWoodsModel" "barrelHas" "[I", .methodLink RX7 140 yX7_has, .instanceMethod yX7_has, .selects RX7 yX7_has yX7_has, .initialized RX7, .code yX7_has cX7_has 4 (some .int)] ++ wsX70)
def wsX7_barrel_r1 : List Cond := [Cond.fieldLink RX7 56 "ResinWoodsModel" "barrelHas" "[I", Cond.fieldLink RX7 53 "ResinWoodsModel" "barrelWood" "[I", Cond.fieldLink RX7 62 "ResinWoodsModel" "isStilled" "[Z", Cond.fieldLink RX7 65 "ResinWoodsModel" "isPaid" "[Z", Cond.methodLink RX7 159 yX7_isBarrel, Cond.instanceMethod yX7_isBarrel, Cond.selects RX7 yX7_isBarrel yX7_isBarrel, Cond.initialized RX7, Cond.code yX7_isBarrel cX7_isBarrel 2 (some .boolean), Cond.fieldLink RX7 143 "ResinWoodsModel" "barrels" "I", Cond.methodLink RX7 96 yX7_in, Cond.static yX7_in, Cond.code yX7_in cX7_in 3 (some .boolean), Cond.methodLink RX7 140 yX7_has, Cond.instanceMethod yX7_has, Cond.selects RX7 yX7_has yX7_has, Cond.code yX7_has cX7_has 4 (some .int), Cond.methodLink RX7 162 yX7_grade, Cond.instanceMethod yX7_grade, Cond.selects RX7 yX7_grade yX7_grade, Cond.code yX7_grade cX7_grade 4 (some .int), Cond.methodLink RX7 146 yX7_isFull, Cond.instanceMethod yX7_isFull, Cond.selects RX7 yX7_isFull yX7_isFull]
def wsX7_barrel_r2 : List Cond := [Cond.code yX7_isFull cX7_isFull 2 (some .boolean)]
def wsX7_barrel : List Cond := .code yX7_barrel cX7_barrel 3 (some .int) :: ((wsX7_barrel_r1 ++ wsX7_barrel_r2) ++ wsX70)
def wsX7_from : List Cond := .code yX7_from cX7_from 3 (some .int) :: ([.fieldLink RX7 59 "ResinWoodsModel" "barrelFrom" "[I", .methodLink RX7 159 yX7_isBarrel, .instanceMethod yX7_isBarrel, .selects RX7 yX7_isBarrel yX7_isBarrel, .initialized RX7, .code yX7_isBarrel cX7_isBarrel 2 (some .boolean), .fieldLink RX7 143 "ResinWoodsModel" "barrels" "I", .methodLink RX7 96 yX7_in, .static yX7_in, .code yX7_in cX7_in 3 (some .boolean), .methodLink RX7 103 yX7_isTree, .instanceMethod yX7_isTree, .selects RX7 yX7_isTree yX7_isTree, .code yX7_isTree cX7_isTree 2 (some .boolean), .fieldLink RX7 92 "ResinWoodsModel" "trees" "I"] ++ wsX70)
def wsX7_still : List Cond := .code yX7_still cX7_still 4 (some .int) :: ([.fieldLink RX7 62 "ResinWoodsModel" "isStilled" "[Z", .fieldLink RX7 65 "ResinWoodsModel" "isPaid" "[Z", .fieldLink RX7 165 "ResinWoodsModel" "spirit" "I", .fieldLink RX7 168 "ResinWoodsModel" "rosin" "I", .methodLink RX7 159 yX7_isBarrel, .instanceMethod yX7_isBarrel, .selects RX7 yX7_isBarrel yX7_isBarrel, .initialized RX7, .code yX7_isBarrel cX7_isBarrel 2 (some .boolean), .fieldLink RX7 143 "ResinWoodsModel" "barrels" "I", .methodLink RX7 96 yX7_in, .static yX7_in, .code yX7_in cX7_in 3 (some .boolean), .methodLink RX7 140 yX7_has, .instanceMethod yX7_has, .selects RX7 yX7_has yX7_has, .code yX7_has cX7_has 4 (some .int), .fieldLink RX7 56 "ResinWoodsModel" "barrelHas" "[I", .methodLink RX7 162 yX7_grade, .instanceMethod yX7_grade, .selects RX7 yX7_grade yX7_grade, .code yX7_grade cX7_grade 4 (some .int)] ++ wsX70)
def wsX7_isWood : List Cond := .code yX7_isWood cX7_isWood 1 (some .boolean) :: ([.methodLink RX7 96 yX7_in, .static yX7_in, .initialized RX7, .code yX7_in cX7_in 3 (some .boolean)])
def wsX7_let : List Cond := .code yX7_let cX7_let 3 (some .boolean) :: ([.fieldLink RX7 68 "ResinWoodsModel" "isLet" "[Z", .fieldLink RX7 71 "ResinWoodsModel" "rent" "[I", .fieldLink RX7 74 "ResinWoodsModel" "taken" "[I", .fieldLink RX7 77 "ResinWoodsModel" "paid" "[I", .methodLink RX7 171 yX7_isWood, .static yX7_isWood, .initialized RX7, .code yX7_isWood cX7_isWood 1 (some .boolean), .methodLink RX7 96 yX7_in, .static yX7_in, .code yX7_in cX7_in 3 (some .boolean)] ++ wsX70)
def wsX7_due : List Cond := .code yX7_due cX7_due 2 (some .int) :: ([.fieldLink RX7 68 "ResinWoodsModel" "isLet" "[Z", .fieldLink RX7 74 "ResinWoodsModel" "taken" "[I", .fieldLink RX7 71 "ResinWoodsModel" "rent" "[I", .constantLong RX7 174 (100), .fieldLink RX7 77 "ResinWoodsModel" "paid" "[I", .methodLink RX7 171 yX7_isWood, .static yX7_isWood, .initialized RX7, .code yX7_isWood cX7_isWood 1 (some .boolean), .methodLink RX7 96 yX7_in, .static yX7_in, .code yX7_in cX7_in 3 (some .boolean)] ++ wsX70)
def wsX7_pay_r1 : List Cond := [Cond.fieldLink RX7 62 "ResinWoodsModel" "isStilled" "[Z", Cond.fieldLink RX7 65 "ResinWoodsModel" "isPaid" "[Z", Cond.fieldLink RX7 68 "ResinWoodsModel" "isLet" "[Z", Cond.fieldLink RX7 53 "ResinWoodsModel" "barrelWood" "[I", Cond.constant RX7 176 (-2147483648), Cond.fieldLink RX7 77 "ResinWoodsModel" "paid" "[I", Cond.methodLink RX7 159 yX7_isBarrel, Cond.instanceMethod yX7_isBarrel, Cond.selects RX7 yX7_isBarrel yX7_isBarrel, Cond.initialized RX7, Cond.code yX7_isBarrel cX7_isBarrel 2 (some .boolean), Cond.fieldLink RX7 143 "ResinWoodsModel" "barrels" "I", Cond.methodLink RX7 96 yX7_in, Cond.static yX7_in, Cond.code yX7_in cX7_in 3 (some .boolean), Cond.methodLink RX7 140 yX7_has, Cond.instanceMethod yX7_has, Cond.selects RX7 yX7_has yX7_has, Cond.code yX7_has cX7_has 4 (some .int), Cond.fieldLink RX7 56 "ResinWoodsModel" "barrelHas" "[I", Cond.methodLink RX7 177 yX7_due, Cond.instanceMethod yX7_due, Cond.selects RX7 yX7_due yX7_due, Cond.code yX7_due cX7_due 2 (some .int)]
def wsX7_pay_r2 : List Cond := [Cond.fieldLink RX7 74 "ResinWoodsModel" "taken" "[I", Cond.fieldLink RX7 71 "ResinWoodsModel" "rent" "[I", Cond.constantLong RX7 174 (100), Cond.methodLink RX7 171 yX7_isWood, Cond.static yX7_isWood, Cond.code yX7_isWood cX7_isWood 1 (some .boolean)]
def wsX7_pay : List Cond := .code yX7_pay cX7_pay 2 (some .int) :: ((wsX7_pay_r1 ++ wsX7_pay_r2) ++ wsX70)
def wsX7_burn : List Cond := .code yX7_burn cX7_burn 5 (some .int) :: ([.fieldLink RX7 92 "ResinWoodsModel" "trees" "I", .fieldLink RX7 16 "ResinWoodsModel" "wood" "[I", .fieldLink RX7 28 "ResinWoodsModel" "isBurnt" "[Z", .fieldLink RX7 180 "ResinWoodsModel" "burnt" "I", .fieldLink RX7 47 "ResinWoodsModel" "cups" "[I", .fieldLink RX7 68 "ResinWoodsModel" "isLet" "[Z", .methodLink RX7 171 yX7_isWood, .static yX7_isWood, .initialized RX7, .code yX7_isWood cX7_isWood 1 (some .boolean), .methodLink RX7 96 yX7_in, .static yX7_in, .code yX7_in cX7_in 3 (some .boolean)] ++ wsX70)
def wsX7_chooses : List Cond := .code yX7_chooses cX7_chooses 5 (some .int) :: ([.fieldLink RX7 92 "ResinWoodsModel" "trees" "I", .fieldLink RX7 80 "ResinWoodsModel" "chosen" "[I"] ++ wsX70)
def wsX7_foresees : List Cond := .code yX7_foresees cX7_foresees 13 none :: ([.fieldLink RX7 80 "ResinWoodsModel" "chosen" "[I", .arrayClass .int, .fieldLink RX7 47 "ResinWoodsModel" "cups" "[I", .fieldLink RX7 83 "ResinWoodsModel" "runsOver" "[I", .fieldLink RX7 100 "ResinWoodsModel" "now" "I", .fieldLink RX7 32 "ResinWoodsModel" "opened" "[I", .fieldLink RX7 28 "ResinWoodsModel" "isBurnt" "[Z", .fieldLink RX7 9 "ResinWoodsModel" "warmth" "[I", .fieldLink RX7 41 "ResinWoodsModel" "latest" "[I", .fieldLink RX7 13 "ResinWoodsModel" "rain" "[I", .methodLink RX7 121 yX7_strength, .static yX7_strength, .initialized RX7, .code yX7_strength cX7_strength 1 (some .int), .methodLink RX7 127 yX7_gradeOf, .instanceMethod yX7_gradeOf, .selects RX7 yX7_gradeOf yX7_gradeOf, .code yX7_gradeOf cX7_gradeOf 4 (some .int), .fieldLink RX7 44 "ResinWoodsModel" "openYear" "[I"] ++ wsX70)
def wsX7_apart : List Cond := .code yX7_apart cX7_apart 4 (some .int) :: ([])
def wsX7_orders : List Cond := .code yX7_orders cX7_orders 9 none :: ([.fieldLink RX7 86 "ResinWoodsModel" "order" "[I"] ++ wsX70)
def wsX7_walks_r1 : List Cond := [Cond.fieldLink RX7 189 "ResinWoodsModel" "bestOver" "I", Cond.fieldLink RX7 80 "ResinWoodsModel" "chosen" "[I", Cond.fieldLink RX7 86 "ResinWoodsModel" "order" "[I", Cond.fieldLink RX7 19 "ResinWoodsModel" "placeX" "[I", Cond.fieldLink RX7 22 "ResinWoodsModel" "placeY" "[I", Cond.fieldLink RX7 83 "ResinWoodsModel" "runsOver" "[I", Cond.fieldLink RX7 200 "ResinWoodsModel" "bestSteps" "I", Cond.fieldLink RX7 89 "ResinWoodsModel" "best" "[I", Cond.methodLink RX7 96 yX7_in, Cond.static yX7_in, Cond.initialized RX7, Cond.code yX7_in cX7_in 3 (some .boolean), Cond.methodLink RX7 183 yX7_chooses, Cond.instanceMethod yX7_chooses, Cond.selects RX7 yX7_chooses yX7_chooses, Cond.code yX7_chooses cX7_chooses 5 (some .int), Cond.fieldLink RX7 92 "ResinWoodsModel" "trees" "I", Cond.methodLink RX7 186 yX7_foresees, Cond.instanceMethod yX7_foresees, Cond.selects RX7 yX7_foresees yX7_foresees, Cond.code yX7_foresees cX7_foresees 13 none, Cond.arrayClass .int, Cond.fieldLink RX7 47 "ResinWoodsModel" "cups" "[I", Cond.fieldLink RX7 100 "ResinWoodsModel" "now" "I"]
def wsX7_walks_r2 : List Cond := [Cond.fieldLink RX7 32 "ResinWoodsModel" "opened" "[I", Cond.fieldLink RX7 28 "ResinWoodsModel" "isBurnt" "[Z", Cond.fieldLink RX7 9 "ResinWoodsModel" "warmth" "[I", Cond.fieldLink RX7 41 "ResinWoodsModel" "latest" "[I", Cond.fieldLink RX7 13 "ResinWoodsModel" "rain" "[I", Cond.methodLink RX7 121 yX7_strength, Cond.static yX7_strength, Cond.code yX7_strength cX7_strength 1 (some .int), Cond.methodLink RX7 127 yX7_gradeOf, Cond.instanceMethod yX7_gradeOf, Cond.selects RX7 yX7_gradeOf yX7_gradeOf, Cond.code yX7_gradeOf cX7_gradeOf 4 (some .int), Cond.fieldLink RX7 44 "ResinWoodsModel" "openYear" "[I", Cond.methodLink RX7 192 yX7_orders, Cond.instanceMethod yX7_orders, Cond.selects RX7 yX7_orders yX7_orders, Cond.code yX7_orders cX7_orders 9 none, Cond.methodLink RX7 196 yX7_apart, Cond.static yX7_apart, Cond.code yX7_apart cX7_apart 4 (some .int)]
def wsX7_walks : List Cond := .code yX7_walks cX7_walks 13 (some .int) :: ((wsX7_walks_r1 ++ wsX7_walks_r2) ++ wsX70)
def wsX7_walk_r1 : List Cond := [Cond.fieldLink RX7 80 "ResinWoodsModel" "chosen" "[I", Cond.fieldLink RX7 89 "ResinWoodsModel" "best" "[I", Cond.methodLink RX7 203 yX7_walks, Cond.instanceMethod yX7_walks, Cond.selects RX7 yX7_walks yX7_walks, Cond.initialized RX7, Cond.code yX7_walks cX7_walks 13 (some .int), Cond.fieldLink RX7 189 "ResinWoodsModel" "bestOver" "I", Cond.fieldLink RX7 86 "ResinWoodsModel" "order" "[I", Cond.fieldLink RX7 19 "ResinWoodsModel" "placeX" "[I", Cond.fieldLink RX7 22 "ResinWoodsModel" "placeY" "[I", Cond.fieldLink RX7 83 "ResinWoodsModel" "runsOver" "[I", Cond.fieldLink RX7 200 "ResinWoodsModel" "bestSteps" "I", Cond.methodLink RX7 96 yX7_in, Cond.static yX7_in, Cond.code yX7_in cX7_in 3 (some .boolean), Cond.methodLink RX7 183 yX7_chooses, Cond.instanceMethod yX7_chooses, Cond.selects RX7 yX7_chooses yX7_chooses, Cond.code yX7_chooses cX7_chooses 5 (some .int), Cond.fieldLink RX7 92 "ResinWoodsModel" "trees" "I", Cond.methodLink RX7 186 yX7_foresees, Cond.instanceMethod yX7_foresees, Cond.selects RX7 yX7_foresees yX7_foresees]
def wsX7_walk_r2 : List Cond := [Cond.code yX7_foresees cX7_foresees 13 none, Cond.arrayClass .int, Cond.fieldLink RX7 47 "ResinWoodsModel" "cups" "[I", Cond.fieldLink RX7 100 "ResinWoodsModel" "now" "I", Cond.fieldLink RX7 32 "ResinWoodsModel" "opened" "[I", Cond.fieldLink RX7 28 "ResinWoodsModel" "isBurnt" "[Z", Cond.fieldLink RX7 9 "ResinWoodsModel" "warmth" "[I", Cond.fieldLink RX7 41 "ResinWoodsModel" "latest" "[I", Cond.fieldLink RX7 13 "ResinWoodsModel" "rain" "[I", Cond.methodLink RX7 121 yX7_strength, Cond.static yX7_strength, Cond.code yX7_strength cX7_strength 1 (some .int), Cond.methodLink RX7 127 yX7_gradeOf, Cond.instanceMethod yX7_gradeOf, Cond.selects RX7 yX7_gradeOf yX7_gradeOf, Cond.code yX7_gradeOf cX7_gradeOf 4 (some .int), Cond.fieldLink RX7 44 "ResinWoodsModel" "openYear" "[I", Cond.methodLink RX7 192 yX7_orders, Cond.instanceMethod yX7_orders, Cond.selects RX7 yX7_orders yX7_orders, Cond.code yX7_orders cX7_orders 9 none, Cond.methodLink RX7 196 yX7_apart, Cond.static yX7_apart, Cond.code yX7_apart cX7_apart 4 (some .int)]
def wsX7_walk : List Cond := .code yX7_walk cX7_walk 6 (some .int) :: ((wsX7_walk_r1 ++ wsX7_walk_r2) ++ wsX70)
def wsX7_walked_r1 : List Cond := [Cond.fieldLink RX7 189 "ResinWoodsModel" "bestOver" "I", Cond.fieldLink RX7 200 "ResinWoodsModel" "bestSteps" "I", Cond.methodLink RX7 96 yX7_in, Cond.static yX7_in, Cond.initialized RX7, Cond.code yX7_in cX7_in 3 (some .boolean), Cond.methodLink RX7 203 yX7_walks, Cond.instanceMethod yX7_walks, Cond.selects RX7 yX7_walks yX7_walks, Cond.code yX7_walks cX7_walks 13 (some .int), Cond.fieldLink RX7 80 "ResinWoodsModel" "chosen" "[I", Cond.fieldLink RX7 86 "ResinWoodsModel" "order" "[I", Cond.fieldLink RX7 19 "ResinWoodsModel" "placeX" "[I", Cond.fieldLink RX7 22 "ResinWoodsModel" "placeY" "[I", Cond.fieldLink RX7 83 "ResinWoodsModel" "runsOver" "[I", Cond.fieldLink RX7 89 "ResinWoodsModel" "best" "[I", Cond.methodLink RX7 183 yX7_chooses, Cond.instanceMethod yX7_chooses, Cond.selects RX7 yX7_chooses yX7_chooses, Cond.code yX7_chooses cX7_chooses 5 (some .int), Cond.fieldLink RX7 92 "ResinWoodsModel" "trees" "I", Cond.methodLink RX7 186 yX7_foresees, Cond.instanceMethod yX7_foresees, Cond.selects RX7 yX7_foresees yX7_foresees]
def wsX7_walked_r2 : List Cond := [Cond.code yX7_foresees cX7_foresees 13 none, Cond.arrayClass .int, Cond.fieldLink RX7 47 "ResinWoodsModel" "cups" "[I", Cond.fieldLink RX7 100 "ResinWoodsModel" "now" "I", Cond.fieldLink RX7 32 "ResinWoodsModel" "opened" "[I", Cond.fieldLink RX7 28 "ResinWoodsModel" "isBurnt" "[Z", Cond.fieldLink RX7 9 "ResinWoodsModel" "warmth" "[I", Cond.fieldLink RX7 41 "ResinWoodsModel" "latest" "[I", Cond.fieldLink RX7 13 "ResinWoodsModel" "rain" "[I", Cond.methodLink RX7 121 yX7_strength, Cond.static yX7_strength, Cond.code yX7_strength cX7_strength 1 (some .int), Cond.methodLink RX7 127 yX7_gradeOf, Cond.instanceMethod yX7_gradeOf, Cond.selects RX7 yX7_gradeOf yX7_gradeOf, Cond.code yX7_gradeOf cX7_gradeOf 4 (some .int), Cond.fieldLink RX7 44 "ResinWoodsModel" "openYear" "[I", Cond.methodLink RX7 192 yX7_orders, Cond.instanceMethod yX7_orders, Cond.selects RX7 yX7_orders yX7_orders, Cond.code yX7_orders cX7_orders 9 none, Cond.methodLink RX7 196 yX7_apart, Cond.static yX7_apart, Cond.code yX7_apart cX7_apart 4 (some .int)]
def wsX7_walked : List Cond := .code yX7_walked cX7_walked 5 (some .int) :: ((wsX7_walked_r1 ++ wsX7_walked_r2) ++ wsX70)
def wsX7_count : List Cond := .code yX7_count cX7_count 4 (some .int) :: ([.fieldLink RX7 100 "ResinWoodsModel" "now" "I", .fieldLink RX7 92 "ResinWoodsModel" "trees" "I", .fieldLink RX7 143 "ResinWoodsModel" "barrels" "I", .fieldLink RX7 134 "ResinWoodsModel" "ran" "I", .fieldLink RX7 131 "ResinWoodsModel" "over" "I", .fieldLink RX7 137 "ResinWoodsModel" "washed" "I", .fieldLink RX7 180 "ResinWoodsModel" "burnt" "I", .fieldLink RX7 156 "ResinWoodsModel" "emptied" "I", .fieldLink RX7 165 "ResinWoodsModel" "spirit" "I", .fieldLink RX7 168 "ResinWoodsModel" "rosin" "I", .methodLink RX7 124 yX7_inCup, .instanceMethod yX7_inCup, .selects RX7 yX7_inCup yX7_inCup, .initialized RX7, .code yX7_inCup cX7_inCup 4 (some .int), .fieldLink RX7 47 "ResinWoodsModel" "cups" "[I"] ++ wsX70)
def wsJ9_abs_0f7a4 : List Cond := .code yJ9_abs_0f7a4 cJ9_abs_0f7a4 1 (some .int) :: ([])
def wsJ9_max_7cf53 : List Cond := .code yJ9_max_7cf53 cJ9_max_7cf53 2 (some .int) :: ([])
def wsJ9_min_7cf53 : List Cond := .code yJ9_min_7cf53 cJ9_min_7cf53 2 (some .int) :: ([])
abbrev vwCl : List vw_C := [(RJx4a65c, TJx4a65c, 3), (RX0, TX0, 6), (RX1, TX1, 6), (RX2, TX2, 12), (RX3, TX3, 3), (RX4, TX4, 7), (RX5, TX5, 6), (RX6, TX6, 12), (RX7, TX7, 39)]
end
section
theorem dX0_init_0 : decode cX0_init 0 = .ok (.aload_n 0, 1) := by decide +kernel
theorem dX0_init_1 : decode cX0_init 1 = .ok (.invokespecial 3, 3) := by decide +kernel
theorem dX0_init_4 : decode cX0_init 4 = .ok (.aload_n 0, 1) := by decide +kernel
theorem dX0_init_5 : decode cX0_init 5 = .ok (.iconst 0, 1) := by decide +kernel
theorem dX0_init_6 : decode cX0_init 6 = .ok (.putfield 9, 3) := by decide +kernel
theorem dX0_init_9 : decode cX0_init 9 = .ok (.aload_n 0, 1) := by decide +kernel
theorem dX0_init_10 : decode cX0_init 10 = .ok (.iconst 4, 1) := by decide +kernel
theorem dX0_init_11 : decode cX0_init 11 = .ok (.newarray .int, 2) := by decide +kernel
theorem dX0_init_13 : decode cX0_init 13 = .ok (.putfield 15, 3) := by decide +kernel
theorem dX0_init_16 : decode cX0_init 16 = .ok (.aload_n 0, 1) := by decide +kernel
theorem dX0_init_17 : decode cX0_init 17 = .ok (.bipush 60, 2) := by decide +kernel
theorem dX0_init_19 : decode cX0_init 19 = .ok (.newarray .int, 2) := by decide +kernel
theorem dX0_init_21 : decode cX0_init 21 = .ok (.putfield 19, 3) := by decide +kernel
theorem dX0_init_24 : decode cX0_init 24 = .ok (.aload_n 0, 1) := by decide +kernel
theorem dX0_init_25 : decode cX0_init 25 = .ok (.iconst 0, 1) := by decide +kernel
theorem dX0_init_26 : decode cX0_init 26 = .ok (.putfield 22, 3) := by decide +kernel
theorem dX0_init_29 : decode cX0_init 29 = .ok (.aload_n 0, 1) := by decide +kernel
theorem dX0_init_30 : decode cX0_init 30 = .ok (.iconst 0, 1) := by decide +kernel
theorem dX0_init_31 : decode cX0_init 31 = .ok (.putfield 26, 3) := by decide +kernel
theorem dX0_init_34 : decode cX0_init 34 = .ok (.aload_n 0, 1) := by decide +kernel
theorem dX0_init_35 : decode cX0_init 35 = .ok (.aload_n 1, 1) := by decide +kernel
theorem dX0_init_36 : decode cX0_init 36 = .ok (.putfield 29, 3) := by decide +kernel
theorem dX0_init_39 : decode cX0_init 39 = .ok (.return_, 1) := by decide +kernel
set_option maxRecDepth 20000 in
theorem ggX0_tell_X0_gradeOf : GoodIn wsX0_tell wsX0_gradeOf := goodIn_r _ [11, 2, 1, 20, 21, 22, 23, 24, 25] (by decide +kernel) (by decide +kernel)
set_option maxRecDepth 20000 in
theorem gX0_tell_X0_gradeOf : GoodIn wsX0_tell (wsV RX0 33 RX0 yX0_gradeOf wsX0_gradeOf) := goodIn_app (goodIn_of _ (by decide +kernel)) ggX0_tell_X0_gradeOf
set_option maxRecDepth 20000 in
theorem ggX0_tell_X0_isFull : GoodIn wsX0_tell wsX0_isFull := goodIn_r _ [15, 1, 16, 17, 18, 10, 19, 5, 6, 20, 21, 22, 23, 24, 25] (by decide +kernel) (by decide +kernel)
set_option maxRecDepth 20000 in
theorem gX0_tell_X0_isFull : GoodIn wsX0_tell (wsV RX0 42 RX0 yX0_isFull wsX0_isFull) := goodIn_app (goodIn_of _ (by decide +kernel)) ggX0_tell_X0_isFull
theorem dX0_tell_0 : decode cX0_tell 0 = .ok (.iload_n 1, 1) := by decide +kernel
theorem dX0_tell_1 : decode cX0_tell 1 = .ok (.tableswitch 121 0 9 #[55, 60, 60, 60, 60, 69, 74, 82, 95, 108], 55) := by decide +kernel
theorem dX0_tell_56 : decode cX0_tell 56 = .ok (.aload_n 0, 1) := by decide +kernel
theorem dX0_tell_57 : decode cX0_tell 57 = .ok (.getfield 9, 3) := by decide +kernel
theorem dX0_tell_60 : decode cX0_tell 60 = .ok (.ireturn, 1) := by decide +kernel
theorem dX0_tell_61 : decode cX0_tell 61 = .ok (.aload_n 0, 1) := by decide +kernel
theorem dX0_tell_62 : decode cX0_tell 62 = .ok (.getfield 15, 3) := by decide +kernel
theorem dX0_tell_65 : decode cX0_tell 65 = .ok (.iload_n 1, 1) := by decide +kernel
theorem dX0_tell_66 : decode cX0_tell 66 = .ok (.iconst 1, 1) := by decide +kernel
theorem dX0_tell_67 : decode cX0_tell 67 = .ok (.isub, 1) := by decide +kernel
theorem dX0_tell_68 : decode cX0_tell 68 = .ok (.iaload, 1) := by decide +kernel
theorem dX0_tell_69 : decode cX0_tell 69 = .ok (.ireturn, 1) := by decide +kernel
theorem dX0_tell_70 : decode cX0_tell 70 = .ok (.aload_n 0, 1) := by decide +kernel
theorem dX0_tell_71 : decode cX0_tell 71 = .ok (.invokevirtual 33, 3) := by decide +kernel
theorem dX0_tell_74 : decode cX0_tell 74 = .ok (.ireturn, 1) := by decide +kernel
theorem dX0_tell_75 : decode cX0_tell 75 = .ok (.aload_n 0, 1) := by decide +kernel
theorem dX0_tell_76 : decode cX0_tell 76 = .ok (.getfield 29, 3) := by decide +kernel
theorem dX0_tell_79 : decode cX0_tell 79 = .ok (.getfield 37, 3) := by decide +kernel
theorem dX0_tell_82 : decode cX0_tell 82 = .ok (.ireturn, 1) := by decide +kernel
theorem dX0_tell_83 : decode cX0_tell 83 = .ok (.aload_n 0, 1) := by decide +kernel
theorem dX0_tell_84 : decode cX0_tell 84 = .ok (.invokevirtual 42, 3) := by decide +kernel
theorem dX0_tell_87 : decode cX0_tell 87 = .ok (.ifCond .eq 7, 3) := by decide +kernel
theorem dX0_tell_90 : decode cX0_tell 90 = .ok (.iconst 1, 1) := by decide +kernel
theorem dX0_tell_91 : decode cX0_tell 91 = .ok (.goto 4, 3) := by decide +kernel
theorem dX0_tell_94 : decode cX0_tell 94 = .ok (.iconst 0, 1) := by decide +kernel
theorem dX0_tell_95 : decode cX0_tell 95 = .ok (.ireturn, 1) := by decide +kernel
theorem dX0_tell_96 : decode cX0_tell 96 = .ok (.aload_n 0, 1) := by decide +kernel
theorem dX0_tell_97 : decode cX0_tell 97 = .ok (.getfield 22, 3) := by decide +kernel
theorem dX0_tell_100 : decode cX0_tell 100 = .ok (.ifCond .eq 7, 3) := by decide +kernel
theorem dX0_tell_103 : decode cX0_tell 103 = .ok (.iconst 1, 1) := by decide +kernel
theorem dX0_tell_104 : decode cX0_tell 104 = .ok (.goto 4, 3) := by decide +kernel
theorem dX0_tell_107 : decode cX0_tell 107 = .ok (.iconst 0, 1) := by decide +kernel
theorem dX0_tell_108 : decode cX0_tell 108 = .ok (.ireturn, 1) := by decide +kernel
theorem dX0_tell_109 : decode cX0_tell 109 = .ok (.aload_n 0, 1) := by decide +kernel
theorem dX0_tell_110 : decode cX0_tell 110 = .ok (.getfield 26, 3) := by decide +kernel
theorem dX0_tell_113 : decode cX0_tell 113 = .ok (.ifCond .eq 7, 3) := by decide +kernel
theorem dX0_tell_116 : decode cX0_tell 116 = .ok (.iconst 1, 1) := by decide +kernel
theorem dX0_tell_117 : decode cX0_tell 117 = .ok (.goto 4, 3) := by decide +kernel
theorem dX0_tell_120 : decode cX0_tell 120 = .ok (.iconst 0, 1) := by decide +kernel
theorem dX0_tell_121 : decode cX0_tell 121 = .ok (.ireturn, 1) := by decide +kernel
theorem dX0_tell_122 : decode cX0_tell 122 = .ok (.iconst (-1), 1) := by decide +kernel
theorem dX0_tell_123 : decode cX0_tell 123 = .ok (.ireturn, 1) := by decide +kernel
theorem dX0_isGone_0 : decode cX0_isGone 0 = .ok (.aload_n 0, 1) := by decide +kernel
theorem dX0_isGone_1 : decode cX0_isGone 1 = .ok (.getfield 22, 3) := by decide +kernel
theorem dX0_isGone_4 : decode cX0_isGone 4 = .ok (.ifCond .ne 10, 3) := by decide +kernel
theorem dX0_isGone_7 : decode cX0_isGone 7 = .ok (.aload_n 0, 1) := by decide +kernel
theorem dX0_isGone_8 : decode cX0_isGone 8 = .ok (.getfield 26, 3) := by decide +kernel
theorem dX0_isGone_11 : decode cX0_isGone 11 = .ok (.ifCond .eq 7, 3) := by decide +kernel
theorem dX0_isGone_14 : decode cX0_isGone 14 = .ok (.iconst 1, 1) := by decide +kernel
theorem dX0_isGone_15 : decode cX0_isGone 15 = .ok (.goto 4, 3) := by decide +kernel
theorem dX0_isGone_18 : decode cX0_isGone 18 = .ok (.iconst 0, 1) := by decide +kernel
theorem dX0_isGone_19 : decode cX0_isGone 19 = .ok (.ireturn, 1) := by decide +kernel
set_option maxRecDepth 20000 in
theorem ggX0_isFull_X0_isGone : GoodIn wsX0_isFull wsX0_isGone := goodIn_r _ [6, 7, 8, 9, 10, 11, 12, 13, 14] (by decide +kernel) (by decide +kernel)
set_option maxRecDepth 20000 in
theorem gX0_isFull_X0_isGone : GoodIn wsX0_isFull (wsV RX0 46 RX0 yX0_isGone wsX0_isGone) := goodIn_app (goodIn_of _ (by decide +kernel)) ggX0_isFull_X0_isGone
theorem dX0_isFull_0 : decode cX0_isFull 0 = .ok (.aload_n 0, 1) := by decide +kernel
theorem dX0_isFull_1 : decode cX0_isFull 1 = .ok (.invokevirtual 46, 3) := by decide +kernel
theorem dX0_isFull_4 : decode cX0_isFull 4 = .ok (.ifCond .ne 13, 3) := by decide +kernel
theorem dX0_isFull_7 : decode cX0_isFull 7 = .ok (.aload_n 0, 1) := by decide +kernel
theorem dX0_isFull_8 : decode cX0_isFull 8 = .ok (.getfield 9, 3) := by decide +kernel
theorem dX0_isFull_11 : decode cX0_isFull 11 = .ok (.sipush 1000, 3) := by decide +kernel
theorem dX0_isFull_14 : decode cX0_isFull 14 = .ok (.if_icmp .lt 7, 3) := by decide +kernel
theorem dX0_isFull_17 : decode cX0_isFull 17 = .ok (.iconst 1, 1) := by decide +kernel
theorem dX0_isFull_18 : decode cX0_isFull 18 = .ok (.goto 4, 3) := by decide +kernel
theorem dX0_isFull_21 : decode cX0_isFull 21 = .ok (.iconst 0, 1) := by decide +kernel
theorem dX0_isFull_22 : decode cX0_isFull 22 = .ok (.ireturn, 1) := by decide +kernel
theorem dX0_room_0 : decode cX0_room 0 = .ok (.sipush 1000, 3) := by decide +kernel
theorem dX0_room_3 : decode cX0_room 3 = .ok (.aload_n 0, 1) := by decide +kernel
theorem dX0_room_4 : decode cX0_room 4 = .ok (.getfield 9, 3) := by decide +kernel
theorem dX0_room_7 : decode cX0_room 7 = .ok (.isub, 1) := by decide +kernel
theorem dX0_room_8 : decode cX0_room 8 = .ok (.ireturn, 1) := by decide +kernel
set_option maxRecDepth 20000 in
theorem ggX0_fill_X0_room : GoodIn wsX0_fill wsX0_room := goodIn_r _ [12, 5, 13, 14, 15, 16, 17, 18] (by decide +kernel) (by decide +kernel)
set_option maxRecDepth 20000 in
theorem gX0_fill_X0_room : GoodIn wsX0_fill (wsV RX0 49 RX0 yX0_room wsX0_room) := goodIn_app (goodIn_of _ (by decide +kernel)) ggX0_fill_X0_room
theorem dX0_fill_0 : decode cX0_fill 0 = .ok (.iload_n 3, 1) := by decide +kernel
theorem dX0_fill_1 : decode cX0_fill 1 = .ok (.aload_n 0, 1) := by decide +kernel
theorem dX0_fill_2 : decode cX0_fill 2 = .ok (.invokevirtual 49, 3) := by decide +kernel
theorem dX0_fill_5 : decode cX0_fill 5 = .ok (.invokestatic 52, 3) := by decide +kernel
theorem dX0_fill_8 : decode cX0_fill 8 = .ok (.istore 4, 2) := by decide +kernel
theorem dX0_fill_10 : decode cX0_fill 10 = .ok (.aload_n 0, 1) := by decide +kernel
theorem dX0_fill_11 : decode cX0_fill 11 = .ok (.dup, 1) := by decide +kernel
theorem dX0_fill_12 : decode cX0_fill 12 = .ok (.getfield 9, 3) := by decide +kernel
theorem dX0_fill_15 : decode cX0_fill 15 = .ok (.iload 4, 2) := by decide +kernel
theorem dX0_fill_17 : decode cX0_fill 17 = .ok (.iadd, 1) := by decide +kernel
theorem dX0_fill_18 : decode cX0_fill 18 = .ok (.putfield 9, 3) := by decide +kernel
theorem dX0_fill_21 : decode cX0_fill 21 = .ok (.aload_n 0, 1) := by decide +kernel
theorem dX0_fill_22 : decode cX0_fill 22 = .ok (.getfield 15, 3) := by decide +kernel
theorem dX0_fill_25 : decode cX0_fill 25 = .ok (.iload_n 2, 1) := by decide +kernel
theorem dX0_fill_26 : decode cX0_fill 26 = .ok (.dup2, 1) := by decide +kernel
theorem dX0_fill_27 : decode cX0_fill 27 = .ok (.iaload, 1) := by decide +kernel
theorem dX0_fill_28 : decode cX0_fill 28 = .ok (.iload 4, 2) := by decide +kernel
theorem dX0_fill_30 : decode cX0_fill 30 = .ok (.iadd, 1) := by decide +kernel
theorem dX0_fill_31 : decode cX0_fill 31 = .ok (.iastore, 1) := by decide +kernel
theorem dX0_fill_32 : decode cX0_fill 32 = .ok (.aload_n 0, 1) := by decide +kernel
theorem dX0_fill_33 : decode cX0_fill 33 = .ok (.getfield 19, 3) := by decide +kernel
theorem dX0_fill_36 : decode cX0_fill 36 = .ok (.iload_n 1, 1) := by decide +kernel
theorem dX0_fill_37 : decode cX0_fill 37 = .ok (.dup2, 1) := by decide +kernel
theorem dX0_fill_38 : decode cX0_fill 38 = .ok (.iaload, 1) := by decide +kernel
theorem dX0_fill_39 : decode cX0_fill 39 = .ok (.iload 4, 2) := by decide +kernel
theorem dX0_fill_41 : decode cX0_fill 41 = .ok (.iadd, 1) := by decide +kernel
theorem dX0_fill_42 : decode cX0_fill 42 = .ok (.iastore, 1) := by decide +kernel
theorem dX0_fill_43 : decode cX0_fill 43 = .ok (.iload 4, 2) := by decide +kernel
theorem dX0_fill_45 : decode cX0_fill 45 = .ok (.ireturn, 1) := by decide +kernel
theorem dX0_gradeOf_0 : decode cX0_gradeOf 0 = .ok (.iconst 0, 1) := by decide +kernel
theorem dX0_gradeOf_1 : decode cX0_gradeOf 1 = .ok (.istore_n 1, 1) := by decide +kernel
theorem dX0_gradeOf_2 : decode cX0_gradeOf 2 = .ok (.iconst 0, 1) := by decide +kernel
theorem dX0_gradeOf_3 : decode cX0_gradeOf 3 = .ok (.istore_n 2, 1) := by decide +kernel
theorem dX0_gradeOf_4 : decode cX0_gradeOf 4 = .ok (.iload_n 2, 1) := by decide +kernel
theorem dX0_gradeOf_5 : decode cX0_gradeOf 5 = .ok (.iconst 4, 1) := by decide +kernel
theorem dX0_gradeOf_6 : decode cX0_gradeOf 6 = .ok (.if_icmp .ge 20, 3) := by decide +kernel
theorem dX0_gradeOf_9 : decode cX0_gradeOf 9 = .ok (.iload_n 1, 1) := by decide +kernel
theorem dX0_gradeOf_10 : decode cX0_gradeOf 10 = .ok (.iload_n 2, 1) := by decide +kernel
theorem dX0_gradeOf_11 : decode cX0_gradeOf 11 = .ok (.aload_n 0, 1) := by decide +kernel
theorem dX0_gradeOf_12 : decode cX0_gradeOf 12 = .ok (.getfield 15, 3) := by decide +kernel
theorem dX0_gradeOf_15 : decode cX0_gradeOf 15 = .ok (.iload_n 2, 1) := by decide +kernel
theorem dX0_gradeOf_16 : decode cX0_gradeOf 16 = .ok (.iaload, 1) := by decide +kernel
theorem dX0_gradeOf_17 : decode cX0_gradeOf 17 = .ok (.imul, 1) := by decide +kernel
theorem dX0_gradeOf_18 : decode cX0_gradeOf 18 = .ok (.iadd, 1) := by decide +kernel
theorem dX0_gradeOf_19 : decode cX0_gradeOf 19 = .ok (.istore_n 1, 1) := by decide +kernel
theorem dX0_gradeOf_20 : decode cX0_gradeOf 20 = .ok (.iinc 2 1, 3) := by decide +kernel
theorem dX0_gradeOf_23 : decode cX0_gradeOf 23 = .ok (.goto (-19), 3) := by decide +kernel
theorem dX0_gradeOf_26 : decode cX0_gradeOf 26 = .ok (.aload_n 0, 1) := by decide +kernel
theorem dX0_gradeOf_27 : decode cX0_gradeOf 27 = .ok (.getfield 9, 3) := by decide +kernel
theorem dX0_gradeOf_30 : decode cX0_gradeOf 30 = .ok (.ifCond .gt 7, 3) := by decide +kernel
theorem dX0_gradeOf_33 : decode cX0_gradeOf 33 = .ok (.iconst 0, 1) := by decide +kernel
theorem dX0_gradeOf_34 : decode cX0_gradeOf 34 = .ok (.goto 9, 3) := by decide +kernel
theorem dX0_gradeOf_37 : decode cX0_gradeOf 37 = .ok (.iload_n 1, 1) := by decide +kernel
theorem dX0_gradeOf_38 : decode cX0_gradeOf 38 = .ok (.aload_n 0, 1) := by decide +kernel
theorem dX0_gradeOf_39 : decode cX0_gradeOf 39 = .ok (.getfield 9, 3) := by decide +kernel
theorem dX0_gradeOf_42 : decode cX0_gradeOf 42 = .ok (.idiv, 1) := by decide +kernel
theorem dX0_gradeOf_43 : decode cX0_gradeOf 43 = .ok (.ireturn, 1) := by decide +kernel
theorem dX0_spiritOf_0 : decode cX0_spiritOf 0 = .ok (.aload_n 0, 1) := by decide +kernel
theorem dX0_spiritOf_1 : decode cX0_spiritOf 1 = .ok (.getfield 9, 3) := by decide +kernel
theorem dX0_spiritOf_4 : decode cX0_spiritOf 4 = .ok (.iconst 5, 1) := by decide +kernel
theorem dX0_spiritOf_5 : decode cX0_spiritOf 5 = .ok (.idiv, 1) := by decide +kernel
theorem dX0_spiritOf_6 : decode cX0_spiritOf 6 = .ok (.ireturn, 1) := by decide +kernel
set_option maxRecDepth 20000 in
theorem ggX0_rosinOf_X0_gradeOf : GoodIn wsX0_rosinOf wsX0_gradeOf := goodIn_r _ [10, 11, 1, 12, 13, 14, 15, 16, 17] (by decide +kernel) (by decide +kernel)
set_option maxRecDepth 20000 in
theorem gX0_rosinOf_X0_gradeOf : GoodIn wsX0_rosinOf (wsV RX0 33 RX0 yX0_gradeOf wsX0_gradeOf) := goodIn_app (goodIn_of _ (by decide +kernel)) ggX0_rosinOf_X0_gradeOf
theorem dX0_rosinOf_0 : decode cX0_rosinOf 0 = .ok (.aload_n 0, 1) := by decide +kernel
theorem dX0_rosinOf_1 : decode cX0_rosinOf 1 = .ok (.getfield 9, 3) := by decide +kernel
theorem dX0_rosinOf_4 : decode cX0_rosinOf 4 = .ok (.getstatic 58, 3) := by decide +kernel
theorem dX0_rosinOf_7 : decode cX0_rosinOf 7 = .ok (.aload_n 0, 1) := by decide +kernel
theorem dX0_rosinOf_8 : decode cX0_rosinOf 8 = .ok (.invokevirtual 33, 3) := by decide +kernel
theorem dX0_rosinOf_11 : decode cX0_rosinOf 11 = .ok (.iconst 3, 1) := by decide +kernel
theorem dX0_rosinOf_12 : decode cX0_rosinOf 12 = .ok (.invokestatic 52, 3) := by decide +kernel
theorem dX0_rosinOf_15 : decode cX0_rosinOf 15 = .ok (.iaload, 1) := by decide +kernel
theorem dX0_rosinOf_16 : decode cX0_rosinOf 16 = .ok (.imul, 1) := by decide +kernel
theorem dX0_rosinOf_17 : decode cX0_rosinOf 17 = .ok (.bipush 100, 2) := by decide +kernel
theorem dX0_rosinOf_19 : decode cX0_rosinOf 19 = .ok (.idiv, 1) := by decide +kernel
theorem dX0_rosinOf_20 : decode cX0_rosinOf 20 = .ok (.ireturn, 1) := by decide +kernel
theorem dX1_init_0 : decode cX1_init 0 = .ok (.aload_n 0, 1) := by decide +kernel
theorem dX1_init_1 : decode cX1_init 1 = .ok (.invokespecial 3, 3) := by decide +kernel
theorem dX1_init_4 : decode cX1_init 4 = .ok (.aload_n 0, 1) := by decide +kernel
theorem dX1_init_5 : decode cX1_init 5 = .ok (.iconst 0, 1) := by decide +kernel
theorem dX1_init_6 : decode cX1_init 6 = .ok (.putfield 9, 3) := by decide +kernel
theorem dX1_init_9 : decode cX1_init 9 = .ok (.aload_n 0, 1) := by decide +kernel
theorem dX1_init_10 : decode cX1_init 10 = .ok (.iconst 0, 1) := by decide +kernel
theorem dX1_init_11 : decode cX1_init 11 = .ok (.putfield 15, 3) := by decide +kernel
theorem dX1_init_14 : decode cX1_init 14 = .ok (.aload_n 0, 1) := by decide +kernel
theorem dX1_init_15 : decode cX1_init 15 = .ok (.iconst 0, 1) := by decide +kernel
theorem dX1_init_16 : decode cX1_init 16 = .ok (.putfield 18, 3) := by decide +kernel
theorem dX1_init_19 : decode cX1_init 19 = .ok (.aload_n 0, 1) := by decide +kernel
theorem dX1_init_20 : decode cX1_init 20 = .ok (.iconst 0, 1) := by decide +kernel
theorem dX1_init_21 : decode cX1_init 21 = .ok (.putfield 21, 3) := by decide +kernel
theorem dX1_init_24 : decode cX1_init 24 = .ok (.aload_n 0, 1) := by decide +kernel
theorem dX1_init_25 : decode cX1_init 25 = .ok (.iconst 0, 1) := by decide +kernel
theorem dX1_init_26 : decode cX1_init 26 = .ok (.putfield 24, 3) := by decide +kernel
theorem dX1_init_29 : decode cX1_init 29 = .ok (.aload_n 0, 1) := by decide +kernel
theorem dX1_init_30 : decode cX1_init 30 = .ok (.iconst 4, 1) := by decide +kernel
theorem dX1_init_31 : decode cX1_init 31 = .ok (.newarray .int, 2) := by decide +kernel
theorem dX1_init_33 : decode cX1_init 33 = .ok (.putfield 27, 3) := by decide +kernel
theorem dX1_init_36 : decode cX1_init 36 = .ok (.return_, 1) := by decide +kernel
theorem dX1_tell_0 : decode cX1_tell 0 = .ok (.iload_n 1, 1) := by decide +kernel
theorem dX1_tell_1 : decode cX1_tell 1 = .ok (.tableswitch 85 0 8 #[51, 56, 61, 66, 71, 71, 71, 71, 80], 51) := by decide +kernel
theorem dX1_tell_52 : decode cX1_tell 52 = .ok (.aload_n 0, 1) := by decide +kernel
theorem dX1_tell_53 : decode cX1_tell 53 = .ok (.getfield 9, 3) := by decide +kernel
theorem dX1_tell_56 : decode cX1_tell 56 = .ok (.ireturn, 1) := by decide +kernel
theorem dX1_tell_57 : decode cX1_tell 57 = .ok (.aload_n 0, 1) := by decide +kernel
theorem dX1_tell_58 : decode cX1_tell 58 = .ok (.getfield 15, 3) := by decide +kernel
theorem dX1_tell_61 : decode cX1_tell 61 = .ok (.ireturn, 1) := by decide +kernel
theorem dX1_tell_62 : decode cX1_tell 62 = .ok (.aload_n 0, 1) := by decide +kernel
theorem dX1_tell_63 : decode cX1_tell 63 = .ok (.getfield 18, 3) := by decide +kernel
theorem dX1_tell_66 : decode cX1_tell 66 = .ok (.ireturn, 1) := by decide +kernel
theorem dX1_tell_67 : decode cX1_tell 67 = .ok (.aload_n 0, 1) := by decide +kernel
theorem dX1_tell_68 : decode cX1_tell 68 = .ok (.getfield 21, 3) := by decide +kernel
theorem dX1_tell_71 : decode cX1_tell 71 = .ok (.ireturn, 1) := by decide +kernel
theorem dX1_tell_72 : decode cX1_tell 72 = .ok (.aload_n 0, 1) := by decide +kernel
theorem dX1_tell_73 : decode cX1_tell 73 = .ok (.getfield 27, 3) := by decide +kernel
theorem dX1_tell_76 : decode cX1_tell 76 = .ok (.iload_n 1, 1) := by decide +kernel
theorem dX1_tell_77 : decode cX1_tell 77 = .ok (.iconst 4, 1) := by decide +kernel
theorem dX1_tell_78 : decode cX1_tell 78 = .ok (.isub, 1) := by decide +kernel
theorem dX1_tell_79 : decode cX1_tell 79 = .ok (.iaload, 1) := by decide +kernel
theorem dX1_tell_80 : decode cX1_tell 80 = .ok (.ireturn, 1) := by decide +kernel
theorem dX1_tell_81 : decode cX1_tell 81 = .ok (.aload_n 0, 1) := by decide +kernel
theorem dX1_tell_82 : decode cX1_tell 82 = .ok (.getfield 24, 3) := by decide +kernel
theorem dX1_tell_85 : decode cX1_tell 85 = .ok (.ireturn, 1) := by decide +kernel
theorem dX1_tell_86 : decode cX1_tell 86 = .ok (.iconst (-1), 1) := by decide +kernel
theorem dX1_tell_87 : decode cX1_tell 87 = .ok (.ireturn, 1) := by decide +kernel
theorem dX1_mayBeCutOn_0 : decode cX1_mayBeCutOn 0 = .ok (.aload_n 0, 1) := by decide +kernel
theorem dX1_mayBeCutOn_1 : decode cX1_mayBeCutOn 1 = .ok (.getfield 9, 3) := by decide +kernel
theorem dX1_mayBeCutOn_4 : decode cX1_mayBeCutOn 4 = .ok (.bipush 40, 2) := by decide +kernel
theorem dX1_mayBeCutOn_6 : decode cX1_mayBeCutOn 6 = .ok (.if_icmp .ge 17, 3) := by decide +kernel
theorem dX1_mayBeCutOn_9 : decode cX1_mayBeCutOn 9 = .ok (.iload_n 1, 1) := by decide +kernel
theorem dX1_mayBeCutOn_10 : decode cX1_mayBeCutOn 10 = .ok (.aload_n 0, 1) := by decide +kernel
theorem dX1_mayBeCutOn_11 : decode cX1_mayBeCutOn 11 = .ok (.getfield 15, 3) := by decide +kernel
theorem dX1_mayBeCutOn_14 : decode cX1_mayBeCutOn 14 = .ok (.isub, 1) := by decide +kernel
theorem dX1_mayBeCutOn_15 : decode cX1_mayBeCutOn 15 = .ok (.iconst 5, 1) := by decide +kernel
theorem dX1_mayBeCutOn_16 : decode cX1_mayBeCutOn 16 = .ok (.if_icmp .lt 7, 3) := by decide +kernel
theorem dX1_mayBeCutOn_19 : decode cX1_mayBeCutOn 19 = .ok (.iconst 1, 1) := by decide +kernel
theorem dX1_mayBeCutOn_20 : decode cX1_mayBeCutOn 20 = .ok (.goto 4, 3) := by decide +kernel
theorem dX1_mayBeCutOn_23 : decode cX1_mayBeCutOn 23 = .ok (.iconst 0, 1) := by decide +kernel
theorem dX1_mayBeCutOn_24 : decode cX1_mayBeCutOn 24 = .ok (.ireturn, 1) := by decide +kernel
set_option maxRecDepth 20000 in
theorem ggX1_endDay_X1_strengthOn : GoodIn wsX1_endDay wsX1_strengthOn := goodIn_r _ [9, 10, 39, 40, 41, 42, 43, 44] (by decide +kernel) (by decide +kernel)
set_option maxRecDepth 20000 in
theorem gX1_endDay_X1_strengthOn : GoodIn wsX1_endDay (wsV RX1 31 RX1 yX1_strengthOn wsX1_strengthOn) := goodIn_app (goodIn_of _ (by decide +kernel)) ggX1_endDay_X1_strengthOn
set_option maxRecDepth 20000 in
theorem ggX1_endDay_X1_gradeOn : GoodIn wsX1_endDay wsX1_gradeOn := goodIn_r _ [14, 15, 16, 17, 18, 19, 20, 21, 22, 23, 24, 25, 39, 40, 41, 42, 43, 44] (by decide +kernel) (by decide +kernel)
set_option maxRecDepth 20000 in
theorem gX1_endDay_X1_gradeOn : GoodIn wsX1_endDay (wsV RX1 41 RX1 yX1_gradeOn wsX1_gradeOn) := goodIn_app (goodIn_of _ (by decide +kernel)) ggX1_endDay_X1_gradeOn
set_option maxRecDepth 20000 in
theorem ggX1_endDay_X1_catchInCup : GoodIn wsX1_endDay wsX1_catchInCup := goodIn_r _ [29, 3, 16, 17, 18, 19, 30, 31, 39, 40, 41, 42, 43, 44] (by decide +kernel) (by decide +kernel)
set_option maxRecDepth 20000 in
theorem gX1_endDay_X1_catchInCup : GoodIn wsX1_endDay (wsV RX1 44 RX1 yX1_catchInCup wsX1_catchInCup) := goodIn_app (goodIn_of _ (by decide +kernel)) ggX1_endDay_X1_catchInCup
set_option maxRecDepth 20000 in
theorem ggX1_endDay_X1_washBy : GoodIn wsX1_endDay wsX1_washBy := goodIn_r _ [35, 30, 3, 39, 40, 41, 42, 43, 44] (by decide +kernel) (by decide +kernel)
set_option maxRecDepth 20000 in
theorem gX1_endDay_X1_washBy : GoodIn wsX1_endDay (wsV RX1 51 RX1 yX1_washBy wsX1_washBy) := goodIn_app (goodIn_of _ (by decide +kernel)) ggX1_endDay_X1_washBy
theorem dX1_endDay_0 : decode cX1_endDay 0 = .ok (.iload_n 2, 1) := by decide +kernel
theorem dX1_endDay_1 : decode cX1_endDay 1 = .ok (.aload_n 0, 1) := by decide +kernel
theorem dX1_endDay_2 : decode cX1_endDay 2 = .ok (.iload_n 1, 1) := by decide +kernel
theorem dX1_endDay_3 : decode cX1_endDay 3 = .ok (.invokevirtual 31, 3) := by decide +kernel
theorem dX1_endDay_6 : decode cX1_endDay 6 = .ok (.imul, 1) := by decide +kernel
theorem dX1_endDay_7 : decode cX1_endDay 7 = .ok (.istore 5, 2) := by decide +kernel
theorem dX1_endDay_9 : decode cX1_endDay 9 = .ok (.iload 5, 2) := by decide +kernel
theorem dX1_endDay_11 : decode cX1_endDay 11 = .ok (.ifCond .le 36, 3) := by decide +kernel
theorem dX1_endDay_14 : decode cX1_endDay 14 = .ok (.aload 4, 2) := by decide +kernel
theorem dX1_endDay_16 : decode cX1_endDay 16 = .ok (.dup, 1) := by decide +kernel
theorem dX1_endDay_17 : decode cX1_endDay 17 = .ok (.getfield 35, 3) := by decide +kernel
theorem dX1_endDay_20 : decode cX1_endDay 20 = .ok (.iload 5, 2) := by decide +kernel
theorem dX1_endDay_22 : decode cX1_endDay 22 = .ok (.iadd, 1) := by decide +kernel
theorem dX1_endDay_23 : decode cX1_endDay 23 = .ok (.putfield 35, 3) := by decide +kernel
theorem dX1_endDay_26 : decode cX1_endDay 26 = .ok (.aload 4, 2) := by decide +kernel
theorem dX1_endDay_28 : decode cX1_endDay 28 = .ok (.dup, 1) := by decide +kernel
theorem dX1_endDay_29 : decode cX1_endDay 29 = .ok (.getfield 40, 3) := by decide +kernel
theorem dX1_endDay_32 : decode cX1_endDay 32 = .ok (.aload_n 0, 1) := by decide +kernel
theorem dX1_endDay_33 : decode cX1_endDay 33 = .ok (.iload 5, 2) := by decide +kernel
theorem dX1_endDay_35 : decode cX1_endDay 35 = .ok (.aload_n 0, 1) := by decide +kernel
theorem dX1_endDay_36 : decode cX1_endDay 36 = .ok (.iload_n 1, 1) := by decide +kernel
theorem dX1_endDay_37 : decode cX1_endDay 37 = .ok (.invokevirtual 41, 3) := by decide +kernel
theorem dX1_endDay_40 : decode cX1_endDay 40 = .ok (.invokevirtual 44, 3) := by decide +kernel
theorem dX1_endDay_43 : decode cX1_endDay 43 = .ok (.iadd, 1) := by decide +kernel
theorem dX1_endDay_44 : decode cX1_endDay 44 = .ok (.putfield 40, 3) := by decide +kernel
theorem dX1_endDay_47 : decode cX1_endDay 47 = .ok (.iload_n 3, 1) := by decide +kernel
theorem dX1_endDay_48 : decode cX1_endDay 48 = .ok (.ifCond .le 25, 3) := by decide +kernel
theorem dX1_endDay_51 : decode cX1_endDay 51 = .ok (.aload_n 0, 1) := by decide +kernel
theorem dX1_endDay_52 : decode cX1_endDay 52 = .ok (.getfield 21, 3) := by decide +kernel
theorem dX1_endDay_55 : decode cX1_endDay 55 = .ok (.ifCond .le 18, 3) := by decide +kernel
theorem dX1_endDay_58 : decode cX1_endDay 58 = .ok (.aload 4, 2) := by decide +kernel
theorem dX1_endDay_60 : decode cX1_endDay 60 = .ok (.dup, 1) := by decide +kernel
theorem dX1_endDay_61 : decode cX1_endDay 61 = .ok (.getfield 48, 3) := by decide +kernel
theorem dX1_endDay_64 : decode cX1_endDay 64 = .ok (.aload_n 0, 1) := by decide +kernel
theorem dX1_endDay_65 : decode cX1_endDay 65 = .ok (.iload_n 3, 1) := by decide +kernel
theorem dX1_endDay_66 : decode cX1_endDay 66 = .ok (.invokevirtual 51, 3) := by decide +kernel
theorem dX1_endDay_69 : decode cX1_endDay 69 = .ok (.iadd, 1) := by decide +kernel
theorem dX1_endDay_70 : decode cX1_endDay 70 = .ok (.putfield 48, 3) := by decide +kernel
theorem dX1_endDay_73 : decode cX1_endDay 73 = .ok (.return_, 1) := by decide +kernel
theorem dX1_strengthOn_0 : decode cX1_strengthOn 0 = .ok (.iload_n 1, 1) := by decide +kernel
theorem dX1_strengthOn_1 : decode cX1_strengthOn 1 = .ok (.aload_n 0, 1) := by decide +kernel
theorem dX1_strengthOn_2 : decode cX1_strengthOn 2 = .ok (.getfield 15, 3) := by decide +kernel
theorem dX1_strengthOn_5 : decode cX1_strengthOn 5 = .ok (.isub, 1) := by decide +kernel
theorem dX1_strengthOn_6 : decode cX1_strengthOn 6 = .ok (.istore_n 2, 1) := by decide +kernel
theorem dX1_strengthOn_7 : decode cX1_strengthOn 7 = .ok (.iload_n 2, 1) := by decide +kernel
theorem dX1_strengthOn_8 : decode cX1_strengthOn 8 = .ok (.ifCond .lt 11, 3) := by decide +kernel
theorem dX1_strengthOn_11 : decode cX1_strengthOn 11 = .ok (.iload_n 2, 1) := by decide +kernel
theorem dX1_strengthOn_12 : decode cX1_strengthOn 12 = .ok (.getstatic 54, 3) := by decide +kernel
theorem dX1_strengthOn_15 : decode cX1_strengthOn 15 = .ok (.arraylength, 1) := by decide +kernel
theorem dX1_strengthOn_16 : decode cX1_strengthOn 16 = .ok (.if_icmp .lt 7, 3) := by decide +kernel
theorem dX1_strengthOn_19 : decode cX1_strengthOn 19 = .ok (.iconst 0, 1) := by decide +kernel
theorem dX1_strengthOn_20 : decode cX1_strengthOn 20 = .ok (.goto 8, 3) := by decide +kernel
theorem dX1_strengthOn_23 : decode cX1_strengthOn 23 = .ok (.getstatic 54, 3) := by decide +kernel
theorem dX1_strengthOn_26 : decode cX1_strengthOn 26 = .ok (.iload_n 2, 1) := by decide +kernel
theorem dX1_strengthOn_27 : decode cX1_strengthOn 27 = .ok (.iaload, 1) := by decide +kernel
theorem dX1_strengthOn_28 : decode cX1_strengthOn 28 = .ok (.ireturn, 1) := by decide +kernel
set_option maxRecDepth 20000 in
theorem ggX1_gradeOn_X6_yearOf : GoodIn wsX1_gradeOn wsX6_yearOf := goodIn_r _ [11] (by decide +kernel) (by decide +kernel)
set_option maxRecDepth 20000 in
theorem gX1_gradeOn_X6_yearOf_n57 : GoodIn wsX1_gradeOn (wsX6_yearOf) := ggX1_gradeOn_X6_yearOf
theorem dX1_gradeOn_0 : decode cX1_gradeOn 0 = .ok (.iconst 0, 1) := by decide +kernel
theorem dX1_gradeOn_1 : decode cX1_gradeOn 1 = .ok (.iload_n 1, 1) := by decide +kernel
theorem dX1_gradeOn_2 : decode cX1_gradeOn 2 = .ok (.invokestatic 57, 3) := by decide +kernel
theorem dX1_gradeOn_5 : decode cX1_gradeOn 5 = .ok (.aload_n 0, 1) := by decide +kernel
theorem dX1_gradeOn_6 : decode cX1_gradeOn 6 = .ok (.getfield 18, 3) := by decide +kernel
theorem dX1_gradeOn_9 : decode cX1_gradeOn 9 = .ok (.isub, 1) := by decide +kernel
theorem dX1_gradeOn_10 : decode cX1_gradeOn 10 = .ok (.iconst 3, 1) := by decide +kernel
theorem dX1_gradeOn_11 : decode cX1_gradeOn 11 = .ok (.invokestatic 60, 3) := by decide +kernel
theorem dX1_gradeOn_14 : decode cX1_gradeOn 14 = .ok (.invokestatic 65, 3) := by decide +kernel
theorem dX1_gradeOn_17 : decode cX1_gradeOn 17 = .ok (.ireturn, 1) := by decide +kernel
theorem dX1_catchInCup_0 : decode cX1_catchInCup 0 = .ok (.iload_n 1, 1) := by decide +kernel
theorem dX1_catchInCup_1 : decode cX1_catchInCup 1 = .ok (.sipush 400, 3) := by decide +kernel
theorem dX1_catchInCup_4 : decode cX1_catchInCup 4 = .ok (.aload_n 0, 1) := by decide +kernel
theorem dX1_catchInCup_5 : decode cX1_catchInCup 5 = .ok (.getfield 21, 3) := by decide +kernel
theorem dX1_catchInCup_8 : decode cX1_catchInCup 8 = .ok (.isub, 1) := by decide +kernel
theorem dX1_catchInCup_9 : decode cX1_catchInCup 9 = .ok (.invokestatic 60, 3) := by decide +kernel
theorem dX1_catchInCup_12 : decode cX1_catchInCup 12 = .ok (.istore_n 3, 1) := by decide +kernel
theorem dX1_catchInCup_13 : decode cX1_catchInCup 13 = .ok (.aload_n 0, 1) := by decide +kernel
theorem dX1_catchInCup_14 : decode cX1_catchInCup 14 = .ok (.getfield 27, 3) := by decide +kernel
theorem dX1_catchInCup_17 : decode cX1_catchInCup 17 = .ok (.iload_n 2, 1) := by decide +kernel
theorem dX1_catchInCup_18 : decode cX1_catchInCup 18 = .ok (.dup2, 1) := by decide +kernel
theorem dX1_catchInCup_19 : decode cX1_catchInCup 19 = .ok (.iaload, 1) := by decide +kernel
theorem dX1_catchInCup_20 : decode cX1_catchInCup 20 = .ok (.iload_n 3, 1) := by decide +kernel
theorem dX1_catchInCup_21 : decode cX1_catchInCup 21 = .ok (.iadd, 1) := by decide +kernel
theorem dX1_catchInCup_22 : decode cX1_catchInCup 22 = .ok (.iastore, 1) := by decide +kernel
theorem dX1_catchInCup_23 : decode cX1_catchInCup 23 = .ok (.aload_n 0, 1) := by decide +kernel
theorem dX1_catchInCup_24 : decode cX1_catchInCup 24 = .ok (.dup, 1) := by decide +kernel
theorem dX1_catchInCup_25 : decode cX1_catchInCup 25 = .ok (.getfield 21, 3) := by decide +kernel
theorem dX1_catchInCup_28 : decode cX1_catchInCup 28 = .ok (.iload_n 3, 1) := by decide +kernel
theorem dX1_catchInCup_29 : decode cX1_catchInCup 29 = .ok (.iadd, 1) := by decide +kernel
theorem dX1_catchInCup_30 : decode cX1_catchInCup 30 = .ok (.putfield 21, 3) := by decide +kernel
theorem dX1_catchInCup_33 : decode cX1_catchInCup 33 = .ok (.aload_n 0, 1) := by decide +kernel
theorem dX1_catchInCup_34 : decode cX1_catchInCup 34 = .ok (.dup, 1) := by decide +kernel
theorem dX1_catchInCup_35 : decode cX1_catchInCup 35 = .ok (.getfield 24, 3) := by decide +kernel
theorem dX1_catchInCup_38 : decode cX1_catchInCup 38 = .ok (.iload_n 1, 1) := by decide +kernel
theorem dX1_catchInCup_39 : decode cX1_catchInCup 39 = .ok (.iload_n 3, 1) := by decide +kernel
theorem dX1_catchInCup_40 : decode cX1_catchInCup 40 = .ok (.isub, 1) := by decide +kernel
theorem dX1_catchInCup_41 : decode cX1_catchInCup 41 = .ok (.iadd, 1) := by decide +kernel
theorem dX1_catchInCup_42 : decode cX1_catchInCup 42 = .ok (.putfield 24, 3) := by decide +kernel
theorem dX1_catchInCup_45 : decode cX1_catchInCup 45 = .ok (.iload_n 1, 1) := by decide +kernel
theorem dX1_catchInCup_46 : decode cX1_catchInCup 46 = .ok (.iload_n 3, 1) := by decide +kernel
theorem dX1_catchInCup_47 : decode cX1_catchInCup 47 = .ok (.isub, 1) := by decide +kernel
theorem dX1_catchInCup_48 : decode cX1_catchInCup 48 = .ok (.ireturn, 1) := by decide +kernel
theorem dX1_washBy_0 : decode cX1_washBy 0 = .ok (.iconst 0, 1) := by decide +kernel
theorem dX1_washBy_1 : decode cX1_washBy 1 = .ok (.istore_n 2, 1) := by decide +kernel
theorem dX1_washBy_2 : decode cX1_washBy 2 = .ok (.iconst 0, 1) := by decide +kernel
theorem dX1_washBy_3 : decode cX1_washBy 3 = .ok (.istore_n 3, 1) := by decide +kernel
theorem dX1_washBy_4 : decode cX1_washBy 4 = .ok (.iload_n 3, 1) := by decide +kernel
theorem dX1_washBy_5 : decode cX1_washBy 5 = .ok (.iconst 4, 1) := by decide +kernel
theorem dX1_washBy_6 : decode cX1_washBy 6 = .ok (.if_icmp .ge 38, 3) := by decide +kernel
theorem dX1_washBy_9 : decode cX1_washBy 9 = .ok (.aload_n 0, 1) := by decide +kernel
theorem dX1_washBy_10 : decode cX1_washBy 10 = .ok (.getfield 27, 3) := by decide +kernel
theorem dX1_washBy_13 : decode cX1_washBy 13 = .ok (.iload_n 3, 1) := by decide +kernel
theorem dX1_washBy_14 : decode cX1_washBy 14 = .ok (.iaload, 1) := by decide +kernel
theorem dX1_washBy_15 : decode cX1_washBy 15 = .ok (.iload_n 1, 1) := by decide +kernel
theorem dX1_washBy_16 : decode cX1_washBy 16 = .ok (.imul, 1) := by decide +kernel
theorem dX1_washBy_17 : decode cX1_washBy 17 = .ok (.bipush 100, 2) := by decide +kernel
theorem dX1_washBy_19 : decode cX1_washBy 19 = .ok (.idiv, 1) := by decide +kernel
theorem dX1_washBy_20 : decode cX1_washBy 20 = .ok (.istore 4, 2) := by decide +kernel
theorem dX1_washBy_22 : decode cX1_washBy 22 = .ok (.aload_n 0, 1) := by decide +kernel
theorem dX1_washBy_23 : decode cX1_washBy 23 = .ok (.getfield 27, 3) := by decide +kernel
theorem dX1_washBy_26 : decode cX1_washBy 26 = .ok (.iload_n 3, 1) := by decide +kernel
theorem dX1_washBy_27 : decode cX1_washBy 27 = .ok (.dup2, 1) := by decide +kernel
theorem dX1_washBy_28 : decode cX1_washBy 28 = .ok (.iaload, 1) := by decide +kernel
theorem dX1_washBy_29 : decode cX1_washBy 29 = .ok (.iload 4, 2) := by decide +kernel
theorem dX1_washBy_31 : decode cX1_washBy 31 = .ok (.isub, 1) := by decide +kernel
theorem dX1_washBy_32 : decode cX1_washBy 32 = .ok (.iastore, 1) := by decide +kernel
theorem dX1_washBy_33 : decode cX1_washBy 33 = .ok (.iload_n 2, 1) := by decide +kernel
theorem dX1_washBy_34 : decode cX1_washBy 34 = .ok (.iload 4, 2) := by decide +kernel
theorem dX1_washBy_36 : decode cX1_washBy 36 = .ok (.iadd, 1) := by decide +kernel
theorem dX1_washBy_37 : decode cX1_washBy 37 = .ok (.istore_n 2, 1) := by decide +kernel
theorem dX1_washBy_38 : decode cX1_washBy 38 = .ok (.iinc 3 1, 3) := by decide +kernel
theorem dX1_washBy_41 : decode cX1_washBy 41 = .ok (.goto (-37), 3) := by decide +kernel
theorem dX1_washBy_44 : decode cX1_washBy 44 = .ok (.aload_n 0, 1) := by decide +kernel
theorem dX1_washBy_45 : decode cX1_washBy 45 = .ok (.dup, 1) := by decide +kernel
theorem dX1_washBy_46 : decode cX1_washBy 46 = .ok (.getfield 21, 3) := by decide +kernel
theorem dX1_washBy_49 : decode cX1_washBy 49 = .ok (.iload_n 2, 1) := by decide +kernel
theorem dX1_washBy_50 : decode cX1_washBy 50 = .ok (.isub, 1) := by decide +kernel
theorem dX1_washBy_51 : decode cX1_washBy 51 = .ok (.putfield 21, 3) := by decide +kernel
theorem dX1_washBy_54 : decode cX1_washBy 54 = .ok (.iload_n 2, 1) := by decide +kernel
theorem dX1_washBy_55 : decode cX1_washBy 55 = .ok (.ireturn, 1) := by decide +kernel
theorem dX1_clearCup_0 : decode cX1_clearCup 0 = .ok (.aload_n 0, 1) := by decide +kernel
theorem dX1_clearCup_1 : decode cX1_clearCup 1 = .ok (.iconst 0, 1) := by decide +kernel
theorem dX1_clearCup_2 : decode cX1_clearCup 2 = .ok (.putfield 21, 3) := by decide +kernel
theorem dX1_clearCup_5 : decode cX1_clearCup 5 = .ok (.iconst 0, 1) := by decide +kernel
theorem dX1_clearCup_6 : decode cX1_clearCup 6 = .ok (.istore_n 1, 1) := by decide +kernel
theorem dX1_clearCup_7 : decode cX1_clearCup 7 = .ok (.iload_n 1, 1) := by decide +kernel
theorem dX1_clearCup_8 : decode cX1_clearCup 8 = .ok (.iconst 4, 1) := by decide +kernel
theorem dX1_clearCup_9 : decode cX1_clearCup 9 = .ok (.if_icmp .ge 16, 3) := by decide +kernel
theorem dX1_clearCup_12 : decode cX1_clearCup 12 = .ok (.aload_n 0, 1) := by decide +kernel
theorem dX1_clearCup_13 : decode cX1_clearCup 13 = .ok (.getfield 27, 3) := by decide +kernel
theorem dX1_clearCup_16 : decode cX1_clearCup 16 = .ok (.iload_n 1, 1) := by decide +kernel
theorem dX1_clearCup_17 : decode cX1_clearCup 17 = .ok (.iconst 0, 1) := by decide +kernel
theorem dX1_clearCup_18 : decode cX1_clearCup 18 = .ok (.iastore, 1) := by decide +kernel
theorem dX1_clearCup_19 : decode cX1_clearCup 19 = .ok (.iinc 1 1, 3) := by decide +kernel
theorem dX1_clearCup_22 : decode cX1_clearCup 22 = .ok (.goto (-15), 3) := by decide +kernel
theorem dX1_clearCup_25 : decode cX1_clearCup 25 = .ok (.return_, 1) := by decide +kernel
theorem dX1_standInFor_0 : decode cX1_standInFor 0 = .ok (.aload_n 0, 1) := by decide +kernel
theorem dX1_standInFor_1 : decode cX1_standInFor 1 = .ok (.aload_n 1, 1) := by decide +kernel
theorem dX1_standInFor_2 : decode cX1_standInFor 2 = .ok (.getfield 15, 3) := by decide +kernel
theorem dX1_standInFor_5 : decode cX1_standInFor 5 = .ok (.putfield 15, 3) := by decide +kernel
theorem dX1_standInFor_8 : decode cX1_standInFor 8 = .ok (.aload_n 0, 1) := by decide +kernel
theorem dX1_standInFor_9 : decode cX1_standInFor 9 = .ok (.aload_n 1, 1) := by decide +kernel
theorem dX1_standInFor_10 : decode cX1_standInFor 10 = .ok (.getfield 18, 3) := by decide +kernel
theorem dX1_standInFor_13 : decode cX1_standInFor 13 = .ok (.putfield 18, 3) := by decide +kernel
theorem dX1_standInFor_16 : decode cX1_standInFor 16 = .ok (.aload_n 0, 1) := by decide +kernel
theorem dX1_standInFor_17 : decode cX1_standInFor 17 = .ok (.aload_n 1, 1) := by decide +kernel
theorem dX1_standInFor_18 : decode cX1_standInFor 18 = .ok (.getfield 21, 3) := by decide +kernel
theorem dX1_standInFor_21 : decode cX1_standInFor 21 = .ok (.putfield 21, 3) := by decide +kernel
theorem dX1_standInFor_24 : decode cX1_standInFor 24 = .ok (.aload_n 0, 1) := by decide +kernel
theorem dX1_standInFor_25 : decode cX1_standInFor 25 = .ok (.iconst 0, 1) := by decide +kernel
theorem dX1_standInFor_26 : decode cX1_standInFor 26 = .ok (.putfield 24, 3) := by decide +kernel
theorem dX1_standInFor_29 : decode cX1_standInFor 29 = .ok (.iconst 0, 1) := by decide +kernel
theorem dX1_standInFor_30 : decode cX1_standInFor 30 = .ok (.istore_n 2, 1) := by decide +kernel
theorem dX1_standInFor_31 : decode cX1_standInFor 31 = .ok (.iload_n 2, 1) := by decide +kernel
theorem dX1_standInFor_32 : decode cX1_standInFor 32 = .ok (.iconst 4, 1) := by decide +kernel
theorem dX1_standInFor_33 : decode cX1_standInFor 33 = .ok (.if_icmp .ge 21, 3) := by decide +kernel
theorem dX1_standInFor_36 : decode cX1_standInFor 36 = .ok (.aload_n 0, 1) := by decide +kernel
theorem dX1_standInFor_37 : decode cX1_standInFor 37 = .ok (.getfield 27, 3) := by decide +kernel
theorem dX1_standInFor_40 : decode cX1_standInFor 40 = .ok (.iload_n 2, 1) := by decide +kernel
theorem dX1_standInFor_41 : decode cX1_standInFor 41 = .ok (.aload_n 1, 1) := by decide +kernel
theorem dX1_standInFor_42 : decode cX1_standInFor 42 = .ok (.getfield 27, 3) := by decide +kernel
theorem dX1_standInFor_45 : decode cX1_standInFor 45 = .ok (.iload_n 2, 1) := by decide +kernel
theorem dX1_standInFor_46 : decode cX1_standInFor 46 = .ok (.iaload, 1) := by decide +kernel
theorem dX1_standInFor_47 : decode cX1_standInFor 47 = .ok (.iastore, 1) := by decide +kernel
theorem dX1_standInFor_48 : decode cX1_standInFor 48 = .ok (.iinc 2 1, 3) := by decide +kernel
theorem dX1_standInFor_51 : decode cX1_standInFor 51 = .ok (.goto (-20), 3) := by decide +kernel
theorem dX1_standInFor_54 : decode cX1_standInFor 54 = .ok (.return_, 1) := by decide +kernel
set_option maxRecDepth 20000 in
theorem ggX2_init_X1_init : GoodIn wsX2_init wsX1_init := goodIn_r _ [26, 27, 2, 3, 28, 29, 30, 31, 32, 5, 33, 52, 53, 54, 55, 56, 57] (by decide +kernel) (by decide +kernel)
set_option maxRecDepth 20000 in
theorem gX2_init_X1_init_n39 : GoodIn wsX2_init (wsX1_init) := ggX2_init_X1_init
set_option maxRecDepth 20000 in
theorem ggX2_init_X3_init : GoodIn wsX2_init wsX3_init := goodIn_r _ [35, 36, 2, 3, 37, 38, 39, 58, 59, 60] (by decide +kernel) (by decide +kernel)
set_option maxRecDepth 20000 in
theorem gX2_init_X3_init_n46 : GoodIn wsX2_init (wsX3_init) := ggX2_init_X3_init
theorem dX2_init_0 : decode cX2_init 0 = .ok (.aload_n 0, 1) := by decide +kernel
theorem dX2_init_1 : decode cX2_init 1 = .ok (.invokespecial 3, 3) := by decide +kernel
theorem dX2_init_4 : decode cX2_init 4 = .ok (.aload_n 0, 1) := by decide +kernel
theorem dX2_init_5 : decode cX2_init 5 = .ok (.iconst 0, 1) := by decide +kernel
theorem dX2_init_6 : decode cX2_init 6 = .ok (.putfield 9, 3) := by decide +kernel
theorem dX2_init_9 : decode cX2_init 9 = .ok (.aload_n 0, 1) := by decide +kernel
theorem dX2_init_10 : decode cX2_init 10 = .ok (.bipush 6, 2) := by decide +kernel
theorem dX2_init_12 : decode cX2_init 12 = .ok (.newarray .int, 2) := by decide +kernel
theorem dX2_init_14 : decode cX2_init 14 = .ok (.putfield 15, 3) := by decide +kernel
theorem dX2_init_17 : decode cX2_init 17 = .ok (.aload_n 0, 1) := by decide +kernel
theorem dX2_init_18 : decode cX2_init 18 = .ok (.bipush 6, 2) := by decide +kernel
theorem dX2_init_20 : decode cX2_init 20 = .ok (.newarray .int, 2) := by decide +kernel
theorem dX2_init_22 : decode cX2_init 22 = .ok (.putfield 19, 3) := by decide +kernel
theorem dX2_init_25 : decode cX2_init 25 = .ok (.aload_n 0, 1) := by decide +kernel
theorem dX2_init_26 : decode cX2_init 26 = .ok (.bipush 6, 2) := by decide +kernel
theorem dX2_init_28 : decode cX2_init 28 = .ok (.bipush 20, 2) := by decide +kernel
theorem dX2_init_30 : decode cX2_init 30 = .ok (.multianewarray 22 2, 4) := by decide +kernel
theorem dX2_init_34 : decode cX2_init 34 = .ok (.putfield 24, 3) := by decide +kernel
theorem dX2_init_37 : decode cX2_init 37 = .ok (.aload_n 0, 1) := by decide +kernel
theorem dX2_init_38 : decode cX2_init 38 = .ok (.bipush 6, 2) := by decide +kernel
theorem dX2_init_40 : decode cX2_init 40 = .ok (.newarray .int, 2) := by decide +kernel
theorem dX2_init_42 : decode cX2_init 42 = .ok (.putfield 27, 3) := by decide +kernel
theorem dX2_init_45 : decode cX2_init 45 = .ok (.aload_n 0, 1) := by decide +kernel
theorem dX2_init_46 : decode cX2_init 46 = .ok (.bipush 6, 2) := by decide +kernel
theorem dX2_init_48 : decode cX2_init 48 = .ok (.newarray .int, 2) := by decide +kernel
theorem dX2_init_50 : decode cX2_init 50 = .ok (.putfield 30, 3) := by decide +kernel
theorem dX2_init_53 : decode cX2_init 53 = .ok (.aload_n 0, 1) := by decide +kernel
theorem dX2_init_54 : decode cX2_init 54 = .ok (.bipush 6, 2) := by decide +kernel
theorem dX2_init_56 : decode cX2_init 56 = .ok (.newarray .boolean, 2) := by decide +kernel
theorem dX2_init_58 : decode cX2_init 58 = .ok (.putfield 33, 3) := by decide +kernel
theorem dX2_init_61 : decode cX2_init 61 = .ok (.aload_n 0, 1) := by decide +kernel
theorem dX2_init_62 : decode cX2_init 62 = .ok (.new 37, 3) := by decide +kernel
theorem dX2_init_65 : decode cX2_init 65 = .ok (.dup, 1) := by decide +kernel
theorem dX2_init_66 : decode cX2_init 66 = .ok (.invokespecial 39, 3) := by decide +kernel
theorem dX2_init_69 : decode cX2_init 69 = .ok (.putfield 40, 3) := by decide +kernel
theorem dX2_init_72 : decode cX2_init 72 = .ok (.aload_n 0, 1) := by decide +kernel
theorem dX2_init_73 : decode cX2_init 73 = .ok (.new 44, 3) := by decide +kernel
theorem dX2_init_76 : decode cX2_init 76 = .ok (.dup, 1) := by decide +kernel
theorem dX2_init_77 : decode cX2_init 77 = .ok (.invokespecial 46, 3) := by decide +kernel
theorem dX2_init_80 : decode cX2_init 80 = .ok (.putfield 47, 3) := by decide +kernel
theorem dX2_init_83 : decode cX2_init 83 = .ok (.aload_n 0, 1) := by decide +kernel
theorem dX2_init_84 : decode cX2_init 84 = .ok (.iconst 0, 1) := by decide +kernel
theorem dX2_init_85 : decode cX2_init 85 = .ok (.putfield 51, 3) := by decide +kernel
theorem dX2_init_88 : decode cX2_init 88 = .ok (.aload_n 0, 1) := by decide +kernel
theorem dX2_init_89 : decode cX2_init 89 = .ok (.iconst 0, 1) := by decide +kernel
theorem dX2_init_90 : decode cX2_init 90 = .ok (.putfield 55, 3) := by decide +kernel
theorem dX2_init_93 : decode cX2_init 93 = .ok (.aload_n 0, 1) := by decide +kernel
theorem dX2_init_94 : decode cX2_init 94 = .ok (.iconst 0, 1) := by decide +kernel
theorem dX2_init_95 : decode cX2_init 95 = .ok (.putfield 58, 3) := by decide +kernel
theorem dX2_init_98 : decode cX2_init 98 = .ok (.return_, 1) := by decide +kernel
theorem dX2_begin_0 : decode cX2_begin 0 = .ok (.aload_n 0, 1) := by decide +kernel
theorem dX2_begin_1 : decode cX2_begin 1 = .ok (.iconst 0, 1) := by decide +kernel
theorem dX2_begin_2 : decode cX2_begin 2 = .ok (.putfield 9, 3) := by decide +kernel
theorem dX2_begin_5 : decode cX2_begin 5 = .ok (.aload_n 0, 1) := by decide +kernel
theorem dX2_begin_6 : decode cX2_begin 6 = .ok (.iconst 0, 1) := by decide +kernel
theorem dX2_begin_7 : decode cX2_begin 7 = .ok (.putfield 51, 3) := by decide +kernel
theorem dX2_begin_10 : decode cX2_begin 10 = .ok (.return_, 1) := by decide +kernel
theorem dX2_join_0 : decode cX2_join 0 = .ok (.aload_n 0, 1) := by decide +kernel
theorem dX2_join_1 : decode cX2_join 1 = .ok (.getfield 9, 3) := by decide +kernel
theorem dX2_join_4 : decode cX2_join 4 = .ok (.iconst 5, 1) := by decide +kernel
theorem dX2_join_5 : decode cX2_join 5 = .ok (.invokestatic 61, 3) := by decide +kernel
theorem dX2_join_8 : decode cX2_join 8 = .ok (.istore_n 2, 1) := by decide +kernel
theorem dX2_join_9 : decode cX2_join 9 = .ok (.aload_n 0, 1) := by decide +kernel
theorem dX2_join_10 : decode cX2_join 10 = .ok (.getfield 15, 3) := by decide +kernel
theorem dX2_join_13 : decode cX2_join 13 = .ok (.iload_n 2, 1) := by decide +kernel
theorem dX2_join_14 : decode cX2_join 14 = .ok (.aload_n 1, 1) := by decide +kernel
theorem dX2_join_15 : decode cX2_join 15 = .ok (.getfield 67, 3) := by decide +kernel
theorem dX2_join_18 : decode cX2_join 18 = .ok (.iastore, 1) := by decide +kernel
theorem dX2_join_19 : decode cX2_join 19 = .ok (.aload_n 0, 1) := by decide +kernel
theorem dX2_join_20 : decode cX2_join 20 = .ok (.getfield 19, 3) := by decide +kernel
theorem dX2_join_23 : decode cX2_join 23 = .ok (.iload_n 2, 1) := by decide +kernel
theorem dX2_join_24 : decode cX2_join 24 = .ok (.aload_n 1, 1) := by decide +kernel
theorem dX2_join_25 : decode cX2_join 25 = .ok (.getfield 72, 3) := by decide +kernel
theorem dX2_join_28 : decode cX2_join 28 = .ok (.iastore, 1) := by decide +kernel
theorem dX2_join_29 : decode cX2_join 29 = .ok (.iconst 0, 1) := by decide +kernel
theorem dX2_join_30 : decode cX2_join 30 = .ok (.istore_n 3, 1) := by decide +kernel
theorem dX2_join_31 : decode cX2_join 31 = .ok (.iload_n 3, 1) := by decide +kernel
theorem dX2_join_32 : decode cX2_join 32 = .ok (.bipush 19, 2) := by decide +kernel
theorem dX2_join_34 : decode cX2_join 34 = .ok (.if_icmp .gt 18, 3) := by decide +kernel
theorem dX2_join_37 : decode cX2_join 37 = .ok (.aload_n 0, 1) := by decide +kernel
theorem dX2_join_38 : decode cX2_join 38 = .ok (.getfield 24, 3) := by decide +kernel
theorem dX2_join_41 : decode cX2_join 41 = .ok (.iload_n 2, 1) := by decide +kernel
theorem dX2_join_42 : decode cX2_join 42 = .ok (.aaload, 1) := by decide +kernel
theorem dX2_join_43 : decode cX2_join 43 = .ok (.iload_n 3, 1) := by decide +kernel
theorem dX2_join_44 : decode cX2_join 44 = .ok (.iconst 0, 1) := by decide +kernel
theorem dX2_join_45 : decode cX2_join 45 = .ok (.iastore, 1) := by decide +kernel
theorem dX2_join_46 : decode cX2_join 46 = .ok (.iinc 3 1, 3) := by decide +kernel
theorem dX2_join_49 : decode cX2_join 49 = .ok (.goto (-18), 3) := by decide +kernel
theorem dX2_join_52 : decode cX2_join 52 = .ok (.aload_n 0, 1) := by decide +kernel
theorem dX2_join_53 : decode cX2_join 53 = .ok (.iload_n 2, 1) := by decide +kernel
theorem dX2_join_54 : decode cX2_join 54 = .ok (.iconst 1, 1) := by decide +kernel
theorem dX2_join_55 : decode cX2_join 55 = .ok (.iadd, 1) := by decide +kernel
theorem dX2_join_56 : decode cX2_join 56 = .ok (.putfield 9, 3) := by decide +kernel
theorem dX2_join_59 : decode cX2_join 59 = .ok (.iload_n 2, 1) := by decide +kernel
theorem dX2_join_60 : decode cX2_join 60 = .ok (.ireturn, 1) := by decide +kernel
set_option maxRecDepth 20000 in
theorem ggX2_visit_X2_beatsBest : GoodIn wsX2_visit wsX2_beatsBest := goodIn_r _ [10, 11, 12, 35, 36, 37, 38, 39, 40, 41, 42, 43, 44, 45, 46] (by decide +kernel) (by decide +kernel)
set_option maxRecDepth 20000 in
theorem gX2_visit_X2_beatsBest : GoodIn wsX2_visit (wsV RX2 75 RX2 yX2_beatsBest wsX2_beatsBest) := goodIn_app (goodIn_of _ (by decide +kernel)) ggX2_visit_X2_beatsBest
set_option maxRecDepth 20000 in
theorem ggX2_visit_X2_keepBest : GoodIn wsX2_visit wsX2_keepBest := goodIn_r _ [16, 1, 11, 12, 2, 17, 5, 35, 36, 37, 38, 39, 40, 41, 42, 43, 44, 45, 46] (by decide +kernel) (by decide +kernel)
set_option maxRecDepth 20000 in
theorem gX2_visit_X2_keepBest : GoodIn wsX2_visit (wsV RX2 79 RX2 yX2_keepBest wsX2_keepBest) := goodIn_app (goodIn_of _ (by decide +kernel)) ggX2_visit_X2_keepBest
set_option maxRecDepth 20000 in
theorem ggX2_visit_X2_stepsBetween : GoodIn wsX2_visit wsX2_stepsBetween := goodIn_r _ [20, 21, 22, 23, 24] (by decide +kernel) (by decide +kernel)
set_option maxRecDepth 20000 in
theorem gX2_visit_X2_stepsBetween : GoodIn wsX2_visit (va_wsS RX2 83 yX2_stepsBetween wsX2_stepsBetween) := goodIn_app (goodIn_of _ (by decide +kernel)) ggX2_visit_X2_stepsBetween
set_option maxRecDepth 20000 in
theorem ggX2_visit_X2_spilledBy : GoodIn wsX2_visit wsX2_spilledBy := goodIn_r _ [28, 29, 30, 31, 23, 32, 35, 36, 37, 38, 39, 40, 41, 42, 43, 44, 45, 46] (by decide +kernel) (by decide +kernel)
set_option maxRecDepth 20000 in
theorem gX2_visit_X2_spilledBy : GoodIn wsX2_visit (wsV RX2 86 RX2 yX2_spilledBy wsX2_spilledBy) := goodIn_app (goodIn_of _ (by decide +kernel)) ggX2_visit_X2_spilledBy
set_option maxRecDepth 20000 in
theorem ggX2_visit_X2_visit : GoodIn wsX2_visit wsX2_visit := goodIn_r _ [0, 1, 2, 3, 4, 5, 6, 7, 8, 9, 10, 11, 12, 13, 14, 15, 16, 17, 18, 19, 20, 21, 22, 23, 24, 25, 26, 27, 28, 29, 30, 31, 32, 33, 34, 35, 36, 37, 38, 39, 40, 41, 42, 43, 44, 45, 46] (by decide +kernel) (by decide +kernel)
set_option maxRecDepth 20000 in
theorem gX2_visit_X2_visit : GoodIn wsX2_visit (va_wsS RX2 89 yX2_visit wsX2_visit) := goodIn_app (goodIn_of _ (by decide +kernel)) ggX2_visit_X2_visit
theorem dX2_visit_0 : decode cX2_visit 0 = .ok (.aload_n 0, 1) := by decide +kernel
theorem dX2_visit_1 : decode cX2_visit 1 = .ok (.getfield 51, 3) := by decide +kernel
theorem dX2_visit_4 : decode cX2_visit 4 = .ok (.ifCond .eq 14, 3) := by decide +kernel
theorem dX2_visit_7 : decode cX2_visit 7 = .ok (.aload_n 0, 1) := by decide +kernel
theorem dX2_visit_8 : decode cX2_visit 8 = .ok (.iload 4, 2) := by decide +kernel
theorem dX2_visit_10 : decode cX2_visit 10 = .ok (.iload_n 3, 1) := by decide +kernel
theorem dX2_visit_11 : decode cX2_visit 11 = .ok (.invokevirtual 75, 3) := by decide +kernel
theorem dX2_visit_14 : decode cX2_visit 14 = .ok (.ifCond .ne 4, 3) := by decide +kernel
theorem dX2_visit_17 : decode cX2_visit 17 = .ok (.return_, 1) := by decide +kernel
theorem dX2_visit_18 : decode cX2_visit 18 = .ok (.iload_n 1, 1) := by decide +kernel
theorem dX2_visit_19 : decode cX2_visit 19 = .ok (.aload_n 0, 1) := by decide +kernel
theorem dX2_visit_20 : decode cX2_visit 20 = .ok (.getfield 9, 3) := by decide +kernel
theorem dX2_visit_23 : decode cX2_visit 23 = .ok (.if_icmp .lt 11, 3) := by decide +kernel
theorem dX2_visit_26 : decode cX2_visit 26 = .ok (.aload_n 0, 1) := by decide +kernel
theorem dX2_visit_27 : decode cX2_visit 27 = .ok (.iload 4, 2) := by decide +kernel
theorem dX2_visit_29 : decode cX2_visit 29 = .ok (.iload_n 3, 1) := by decide +kernel
theorem dX2_visit_30 : decode cX2_visit 30 = .ok (.invokevirtual 79, 3) := by decide +kernel
theorem dX2_visit_33 : decode cX2_visit 33 = .ok (.return_, 1) := by decide +kernel
theorem dX2_visit_34 : decode cX2_visit 34 = .ok (.iconst 0, 1) := by decide +kernel
theorem dX2_visit_35 : decode cX2_visit 35 = .ok (.istore 5, 2) := by decide +kernel
theorem dX2_visit_37 : decode cX2_visit 37 = .ok (.iload 5, 2) := by decide +kernel
theorem dX2_visit_39 : decode cX2_visit 39 = .ok (.aload_n 0, 1) := by decide +kernel
theorem dX2_visit_40 : decode cX2_visit 40 = .ok (.getfield 9, 3) := by decide +kernel
theorem dX2_visit_43 : decode cX2_visit 43 = .ok (.if_icmp .ge 85, 3) := by decide +kernel
theorem dX2_visit_46 : decode cX2_visit 46 = .ok (.aload_n 0, 1) := by decide +kernel
theorem dX2_visit_47 : decode cX2_visit 47 = .ok (.getfield 33, 3) := by decide +kernel
theorem dX2_visit_50 : decode cX2_visit 50 = .ok (.iload 5, 2) := by decide +kernel
theorem dX2_visit_52 : decode cX2_visit 52 = .ok (.baload, 1) := by decide +kernel
theorem dX2_visit_53 : decode cX2_visit 53 = .ok (.ifCond .ne 69, 3) := by decide +kernel
theorem dX2_visit_56 : decode cX2_visit 56 = .ok (.iload_n 3, 1) := by decide +kernel
theorem dX2_visit_57 : decode cX2_visit 57 = .ok (.iload_n 2, 1) := by decide +kernel
theorem dX2_visit_58 : decode cX2_visit 58 = .ok (.aload_n 0, 1) := by decide +kernel
theorem dX2_visit_59 : decode cX2_visit 59 = .ok (.getfield 19, 3) := by decide +kernel
theorem dX2_visit_62 : decode cX2_visit 62 = .ok (.iload 5, 2) := by decide +kernel
theorem dX2_visit_64 : decode cX2_visit 64 = .ok (.iaload, 1) := by decide +kernel
theorem dX2_visit_65 : decode cX2_visit 65 = .ok (.invokestatic 83, 3) := by decide +kernel
theorem dX2_visit_68 : decode cX2_visit 68 = .ok (.iadd, 1) := by decide +kernel
theorem dX2_visit_69 : decode cX2_visit 69 = .ok (.istore 6, 2) := by decide +kernel
theorem dX2_visit_71 : decode cX2_visit 71 = .ok (.aload_n 0, 1) := by decide +kernel
theorem dX2_visit_72 : decode cX2_visit 72 = .ok (.getfield 33, 3) := by decide +kernel
theorem dX2_visit_75 : decode cX2_visit 75 = .ok (.iload 5, 2) := by decide +kernel
theorem dX2_visit_77 : decode cX2_visit 77 = .ok (.iconst 1, 1) := by decide +kernel
theorem dX2_visit_78 : decode cX2_visit 78 = .ok (.bastore, 1) := by decide +kernel
theorem dX2_visit_79 : decode cX2_visit 79 = .ok (.aload_n 0, 1) := by decide +kernel
theorem dX2_visit_80 : decode cX2_visit 80 = .ok (.getfield 27, 3) := by decide +kernel
theorem dX2_visit_83 : decode cX2_visit 83 = .ok (.iload_n 1, 1) := by decide +kernel
theorem dX2_visit_84 : decode cX2_visit 84 = .ok (.iload 5, 2) := by decide +kernel
theorem dX2_visit_86 : decode cX2_visit 86 = .ok (.iastore, 1) := by decide +kernel
theorem dX2_visit_87 : decode cX2_visit 87 = .ok (.aload_n 0, 1) := by decide +kernel
theorem dX2_visit_88 : decode cX2_visit 88 = .ok (.iload_n 1, 1) := by decide +kernel
theorem dX2_visit_89 : decode cX2_visit 89 = .ok (.iconst 1, 1) := by decide +kernel
theorem dX2_visit_90 : decode cX2_visit 90 = .ok (.iadd, 1) := by decide +kernel
theorem dX2_visit_91 : decode cX2_visit 91 = .ok (.aload_n 0, 1) := by decide +kernel
theorem dX2_visit_92 : decode cX2_visit 92 = .ok (.getfield 19, 3) := by decide +kernel
theorem dX2_visit_95 : decode cX2_visit 95 = .ok (.iload 5, 2) := by decide +kernel
theorem dX2_visit_97 : decode cX2_visit 97 = .ok (.iaload, 1) := by decide +kernel
theorem dX2_visit_98 : decode cX2_visit 98 = .ok (.iload 6, 2) := by decide +kernel
theorem dX2_visit_100 : decode cX2_visit 100 = .ok (.iload 4, 2) := by decide +kernel
theorem dX2_visit_102 : decode cX2_visit 102 = .ok (.aload_n 0, 1) := by decide +kernel
theorem dX2_visit_103 : decode cX2_visit 103 = .ok (.iload 5, 2) := by decide +kernel
theorem dX2_visit_105 : decode cX2_visit 105 = .ok (.iload 6, 2) := by decide +kernel
theorem dX2_visit_107 : decode cX2_visit 107 = .ok (.invokevirtual 86, 3) := by decide +kernel
theorem dX2_visit_110 : decode cX2_visit 110 = .ok (.iadd, 1) := by decide +kernel
theorem dX2_visit_111 : decode cX2_visit 111 = .ok (.invokestatic 89, 3) := by decide +kernel
theorem dX2_visit_114 : decode cX2_visit 114 = .ok (.aload_n 0, 1) := by decide +kernel
theorem dX2_visit_115 : decode cX2_visit 115 = .ok (.getfield 33, 3) := by decide +kernel
theorem dX2_visit_118 : decode cX2_visit 118 = .ok (.iload 5, 2) := by decide +kernel
theorem dX2_visit_120 : decode cX2_visit 120 = .ok (.iconst 0, 1) := by decide +kernel
theorem dX2_visit_121 : decode cX2_visit 121 = .ok (.bastore, 1) := by decide +kernel
theorem dX2_visit_122 : decode cX2_visit 122 = .ok (.iinc 5 1, 3) := by decide +kernel
theorem dX2_visit_125 : decode cX2_visit 125 = .ok (.goto (-88), 3) := by decide +kernel
theorem dX2_visit_128 : decode cX2_visit 128 = .ok (.return_, 1) := by decide +kernel
theorem dX2_stepsBetween_0 : decode cX2_stepsBetween 0 = .ok (.iload_n 0, 1) := by decide +kernel
theorem dX2_stepsBetween_1 : decode cX2_stepsBetween 1 = .ok (.bipush 100, 2) := by decide +kernel
theorem dX2_stepsBetween_3 : decode cX2_stepsBetween 3 = .ok (.idiv, 1) := by decide +kernel
theorem dX2_stepsBetween_4 : decode cX2_stepsBetween 4 = .ok (.iload_n 1, 1) := by decide +kernel
theorem dX2_stepsBetween_5 : decode cX2_stepsBetween 5 = .ok (.bipush 100, 2) := by decide +kernel
theorem dX2_stepsBetween_7 : decode cX2_stepsBetween 7 = .ok (.idiv, 1) := by decide +kernel
theorem dX2_stepsBetween_8 : decode cX2_stepsBetween 8 = .ok (.isub, 1) := by decide +kernel
theorem dX2_stepsBetween_9 : decode cX2_stepsBetween 9 = .ok (.invokestatic 93, 3) := by decide +kernel
theorem dX2_stepsBetween_12 : decode cX2_stepsBetween 12 = .ok (.iload_n 0, 1) := by decide +kernel
theorem dX2_stepsBetween_13 : decode cX2_stepsBetween 13 = .ok (.bipush 100, 2) := by decide +kernel
theorem dX2_stepsBetween_15 : decode cX2_stepsBetween 15 = .ok (.irem, 1) := by decide +kernel
theorem dX2_stepsBetween_16 : decode cX2_stepsBetween 16 = .ok (.iload_n 1, 1) := by decide +kernel
theorem dX2_stepsBetween_17 : decode cX2_stepsBetween 17 = .ok (.bipush 100, 2) := by decide +kernel
theorem dX2_stepsBetween_19 : decode cX2_stepsBetween 19 = .ok (.irem, 1) := by decide +kernel
theorem dX2_stepsBetween_20 : decode cX2_stepsBetween 20 = .ok (.isub, 1) := by decide +kernel
theorem dX2_stepsBetween_21 : decode cX2_stepsBetween 21 = .ok (.invokestatic 93, 3) := by decide +kernel
theorem dX2_stepsBetween_24 : decode cX2_stepsBetween 24 = .ok (.iadd, 1) := by decide +kernel
theorem dX2_stepsBetween_25 : decode cX2_stepsBetween 25 = .ok (.ireturn, 1) := by decide +kernel
theorem dX2_spilledBy_0 : decode cX2_spilledBy 0 = .ok (.aload_n 0, 1) := by decide +kernel
theorem dX2_spilledBy_1 : decode cX2_spilledBy 1 = .ok (.getfield 24, 3) := by decide +kernel
theorem dX2_spilledBy_4 : decode cX2_spilledBy 4 = .ok (.iload_n 1, 1) := by decide +kernel
theorem dX2_spilledBy_5 : decode cX2_spilledBy 5 = .ok (.aaload, 1) := by decide +kernel
theorem dX2_spilledBy_6 : decode cX2_spilledBy 6 = .ok (.iload_n 2, 1) := by decide +kernel
theorem dX2_spilledBy_7 : decode cX2_spilledBy 7 = .ok (.bipush 60, 2) := by decide +kernel
theorem dX2_spilledBy_9 : decode cX2_spilledBy 9 = .ok (.idiv, 1) := by decide +kernel
theorem dX2_spilledBy_10 : decode cX2_spilledBy 10 = .ok (.bipush 19, 2) := by decide +kernel
theorem dX2_spilledBy_12 : decode cX2_spilledBy 12 = .ok (.invokestatic 61, 3) := by decide +kernel
theorem dX2_spilledBy_15 : decode cX2_spilledBy 15 = .ok (.iaload, 1) := by decide +kernel
theorem dX2_spilledBy_16 : decode cX2_spilledBy 16 = .ok (.ireturn, 1) := by decide +kernel
theorem dX2_beatsBest_0 : decode cX2_beatsBest 0 = .ok (.iload_n 1, 1) := by decide +kernel
theorem dX2_beatsBest_1 : decode cX2_beatsBest 1 = .ok (.aload_n 0, 1) := by decide +kernel
theorem dX2_beatsBest_2 : decode cX2_beatsBest 2 = .ok (.getfield 55, 3) := by decide +kernel
theorem dX2_beatsBest_5 : decode cX2_beatsBest 5 = .ok (.if_icmp .lt 19, 3) := by decide +kernel
theorem dX2_beatsBest_8 : decode cX2_beatsBest 8 = .ok (.iload_n 1, 1) := by decide +kernel
theorem dX2_beatsBest_9 : decode cX2_beatsBest 9 = .ok (.aload_n 0, 1) := by decide +kernel
theorem dX2_beatsBest_10 : decode cX2_beatsBest 10 = .ok (.getfield 55, 3) := by decide +kernel
theorem dX2_beatsBest_13 : decode cX2_beatsBest 13 = .ok (.if_icmp .ne 15, 3) := by decide +kernel
theorem dX2_beatsBest_16 : decode cX2_beatsBest 16 = .ok (.iload_n 2, 1) := by decide +kernel
theorem dX2_beatsBest_17 : decode cX2_beatsBest 17 = .ok (.aload_n 0, 1) := by decide +kernel
theorem dX2_beatsBest_18 : decode cX2_beatsBest 18 = .ok (.getfield 58, 3) := by decide +kernel
theorem dX2_beatsBest_21 : decode cX2_beatsBest 21 = .ok (.if_icmp .ge 7, 3) := by decide +kernel
theorem dX2_beatsBest_24 : decode cX2_beatsBest 24 = .ok (.iconst 1, 1) := by decide +kernel
theorem dX2_beatsBest_25 : decode cX2_beatsBest 25 = .ok (.goto 4, 3) := by decide +kernel
theorem dX2_beatsBest_28 : decode cX2_beatsBest 28 = .ok (.iconst 0, 1) := by decide +kernel
theorem dX2_beatsBest_29 : decode cX2_beatsBest 29 = .ok (.ireturn, 1) := by decide +kernel
theorem dX2_keepBest_0 : decode cX2_keepBest 0 = .ok (.aload_n 0, 1) := by decide +kernel
theorem dX2_keepBest_1 : decode cX2_keepBest 1 = .ok (.iconst 1, 1) := by decide +kernel
theorem dX2_keepBest_2 : decode cX2_keepBest 2 = .ok (.putfield 51, 3) := by decide +kernel
theorem dX2_keepBest_5 : decode cX2_keepBest 5 = .ok (.aload_n 0, 1) := by decide +kernel
theorem dX2_keepBest_6 : decode cX2_keepBest 6 = .ok (.iload_n 1, 1) := by decide +kernel
theorem dX2_keepBest_7 : decode cX2_keepBest 7 = .ok (.putfield 55, 3) := by decide +kernel
theorem dX2_keepBest_10 : decode cX2_keepBest 10 = .ok (.aload_n 0, 1) := by decide +kernel
theorem dX2_keepBest_11 : decode cX2_keepBest 11 = .ok (.iload_n 2, 1) := by decide +kernel
theorem dX2_keepBest_12 : decode cX2_keepBest 12 = .ok (.putfield 58, 3) := by decide +kernel
theorem dX2_keepBest_15 : decode cX2_keepBest 15 = .ok (.iconst 0, 1) := by decide +kernel
theorem dX2_keepBest_16 : decode cX2_keepBest 16 = .ok (.istore_n 3, 1) := by decide +kernel
theorem dX2_keepBest_17 : decode cX2_keepBest 17 = .ok (.iload_n 3, 1) := by decide +kernel
theorem dX2_keepBest_18 : decode cX2_keepBest 18 = .ok (.aload_n 0, 1) := by decide +kernel
theorem dX2_keepBest_19 : decode cX2_keepBest 19 = .ok (.getfield 9, 3) := by decide +kernel
theorem dX2_keepBest_22 : decode cX2_keepBest 22 = .ok (.if_icmp .ge 21, 3) := by decide +kernel
theorem dX2_keepBest_25 : decode cX2_keepBest 25 = .ok (.aload_n 0, 1) := by decide +kernel
theorem dX2_keepBest_26 : decode cX2_keepBest 26 = .ok (.getfield 30, 3) := by decide +kernel
theorem dX2_keepBest_29 : decode cX2_keepBest 29 = .ok (.iload_n 3, 1) := by decide +kernel
theorem dX2_keepBest_30 : decode cX2_keepBest 30 = .ok (.aload_n 0, 1) := by decide +kernel
theorem dX2_keepBest_31 : decode cX2_keepBest 31 = .ok (.getfield 27, 3) := by decide +kernel
theorem dX2_keepBest_34 : decode cX2_keepBest 34 = .ok (.iload_n 3, 1) := by decide +kernel
theorem dX2_keepBest_35 : decode cX2_keepBest 35 = .ok (.iaload, 1) := by decide +kernel
theorem dX2_keepBest_36 : decode cX2_keepBest 36 = .ok (.iastore, 1) := by decide +kernel
theorem dX2_keepBest_37 : decode cX2_keepBest 37 = .ok (.iinc 3 1, 3) := by decide +kernel
theorem dX2_keepBest_40 : decode cX2_keepBest 40 = .ok (.goto (-23), 3) := by decide +kernel
theorem dX2_keepBest_43 : decode cX2_keepBest 43 = .ok (.return_, 1) := by decide +kernel
theorem dX3_init_0 : decode cX3_init 0 = .ok (.aload_n 0, 1) := by decide +kernel
theorem dX3_init_1 : decode cX3_init 1 = .ok (.invokespecial 1, 3) := by decide +kernel
theorem dX3_init_4 : decode cX3_init 4 = .ok (.aload_n 0, 1) := by decide +kernel
theorem dX3_init_5 : decode cX3_init 5 = .ok (.iconst 0, 1) := by decide +kernel
theorem dX3_init_6 : decode cX3_init 6 = .ok (.putfield 7, 3) := by decide +kernel
theorem dX3_init_9 : decode cX3_init 9 = .ok (.aload_n 0, 1) := by decide +kernel
theorem dX3_init_10 : decode cX3_init 10 = .ok (.iconst 0, 1) := by decide +kernel
theorem dX3_init_11 : decode cX3_init 11 = .ok (.putfield 13, 3) := by decide +kernel
theorem dX3_init_14 : decode cX3_init 14 = .ok (.aload_n 0, 1) := by decide +kernel
theorem dX3_init_15 : decode cX3_init 15 = .ok (.iconst 0, 1) := by decide +kernel
theorem dX3_init_16 : decode cX3_init 16 = .ok (.putfield 16, 3) := by decide +kernel
theorem dX3_init_19 : decode cX3_init 19 = .ok (.return_, 1) := by decide +kernel
set_option maxRecDepth 20000 in
theorem ggX4_init_Jx4a65c_init_da8c8 : GoodIn wsX4_init wsJx4a65c_init_da8c8 := goodIn_r _ [16, 17, 18, 19, 20, 21, 22, 23, 24, 25, 26, 27, 28, 2, 3, 29, 30, 31] (by decide +kernel) (by decide +kernel)
set_option maxRecDepth 20000 in
theorem gX4_init_Jx4a65c_init_da8c8 : GoodIn wsX4_init (wsJx4a65c_init_da8c8) := ggX4_init_Jx4a65c_init_da8c8
theorem dX4_init_0 : decode cX4_init 0 = .ok (.aload_n 0, 1) := by decide +kernel
theorem dX4_init_1 : decode cX4_init 1 = .ok (.invokespecial 3, 3) := by decide +kernel
theorem dX4_init_4 : decode cX4_init 4 = .ok (.aload_n 0, 1) := by decide +kernel
theorem dX4_init_5 : decode cX4_init 5 = .ok (.new 9, 3) := by decide +kernel
theorem dX4_init_8 : decode cX4_init 8 = .ok (.dup, 1) := by decide +kernel
theorem dX4_init_9 : decode cX4_init 9 = .ok (.invokespecial 11, 3) := by decide +kernel
theorem dX4_init_12 : decode cX4_init 12 = .ok (.putfield 12, 3) := by decide +kernel
theorem dX4_init_15 : decode cX4_init 15 = .ok (.aload_n 0, 1) := by decide +kernel
theorem dX4_init_16 : decode cX4_init 16 = .ok (.iconst 0, 1) := by decide +kernel
theorem dX4_init_17 : decode cX4_init 17 = .ok (.putfield 18, 3) := by decide +kernel
theorem dX4_init_20 : decode cX4_init 20 = .ok (.aload_n 0, 1) := by decide +kernel
theorem dX4_init_21 : decode cX4_init 21 = .ok (.iconst 0, 1) := by decide +kernel
theorem dX4_init_22 : decode cX4_init 22 = .ok (.putfield 22, 3) := by decide +kernel
theorem dX4_init_25 : decode cX4_init 25 = .ok (.aload_n 0, 1) := by decide +kernel
theorem dX4_init_26 : decode cX4_init 26 = .ok (.iload_n 1, 1) := by decide +kernel
theorem dX4_init_27 : decode cX4_init 27 = .ok (.putfield 26, 3) := by decide +kernel
theorem dX4_init_30 : decode cX4_init 30 = .ok (.aload_n 0, 1) := by decide +kernel
theorem dX4_init_31 : decode cX4_init 31 = .ok (.aload_n 2, 1) := by decide +kernel
theorem dX4_init_32 : decode cX4_init 32 = .ok (.putfield 29, 3) := by decide +kernel
theorem dX4_init_35 : decode cX4_init 35 = .ok (.aload_n 0, 1) := by decide +kernel
theorem dX4_init_36 : decode cX4_init 36 = .ok (.iload_n 3, 1) := by decide +kernel
theorem dX4_init_37 : decode cX4_init 37 = .ok (.putfield 33, 3) := by decide +kernel
theorem dX4_init_40 : decode cX4_init 40 = .ok (.aload_n 0, 1) := by decide +kernel
theorem dX4_init_41 : decode cX4_init 41 = .ok (.iload 4, 2) := by decide +kernel
theorem dX4_init_43 : decode cX4_init 43 = .ok (.putfield 36, 3) := by decide +kernel
theorem dX4_init_46 : decode cX4_init 46 = .ok (.return_, 1) := by decide +kernel
set_option maxRecDepth 20000 in
theorem ggX4_faceAt_Jx4a65c_size_8abf5 : GoodIn wsX4_faceAt wsJx4a65c_size_8abf5 := goodIn_r _ [7, 8, 33, 34, 35] (by decide +kernel) (by decide +kernel)
set_option maxRecDepth 20000 in
theorem gX4_faceAt_Jx4a65c_size_8abf5_f39Jx4a65c : GoodIn wsX4_faceAt (va_wsF RX4 39 RJx4a65c ⟨"java/util/List", "size", "()I"⟩ yJx4a65c_size_8abf5 wsJx4a65c_size_8abf5) := goodIn_app (goodIn_of _ (by decide +kernel)) ggX4_faceAt_Jx4a65c_size_8abf5
set_option maxRecDepth 20000 in
theorem ggX4_faceAt_Jx4a65c_get_915e3 : GoodIn wsX4_faceAt wsJx4a65c_get_915e3 := goodIn_r _ [12, 8, 13, 14, 15, 16, 17, 18, 19, 20, 21, 22, 23, 6, 24, 25, 33, 34, 35] (by decide +kernel) (by decide +kernel)
set_option maxRecDepth 20000 in
theorem gX4_faceAt_Jx4a65c_get_915e3_f45Jx4a65c : GoodIn wsX4_faceAt (va_wsF RX4 45 RJx4a65c ⟨"java/util/List", "get", "(I)Ljava/lang/Object;"⟩ yJx4a65c_get_915e3 wsJx4a65c_get_915e3) := goodIn_app (goodIn_of _ (by decide +kernel)) ggX4_faceAt_Jx4a65c_get_915e3
theorem dX4_faceAt_0 : decode cX4_faceAt 0 = .ok (.iload_n 1, 1) := by decide +kernel
theorem dX4_faceAt_1 : decode cX4_faceAt 1 = .ok (.ifCond .lt 16, 3) := by decide +kernel
theorem dX4_faceAt_4 : decode cX4_faceAt 4 = .ok (.iload_n 1, 1) := by decide +kernel
theorem dX4_faceAt_5 : decode cX4_faceAt 5 = .ok (.aload_n 0, 1) := by decide +kernel
theorem dX4_faceAt_6 : decode cX4_faceAt 6 = .ok (.getfield 12, 3) := by decide +kernel
theorem dX4_faceAt_9 : decode cX4_faceAt 9 = .ok (.invokeinterface 39 1, 5) := by decide +kernel
theorem dX4_faceAt_14 : decode cX4_faceAt 14 = .ok (.if_icmp .lt 7, 3) := by decide +kernel
theorem dX4_faceAt_17 : decode cX4_faceAt 17 = .ok (.aconst_null, 1) := by decide +kernel
theorem dX4_faceAt_18 : decode cX4_faceAt 18 = .ok (.goto 16, 3) := by decide +kernel
theorem dX4_faceAt_21 : decode cX4_faceAt 21 = .ok (.aload_n 0, 1) := by decide +kernel
theorem dX4_faceAt_22 : decode cX4_faceAt 22 = .ok (.getfield 12, 3) := by decide +kernel
theorem dX4_faceAt_25 : decode cX4_faceAt 25 = .ok (.iload_n 1, 1) := by decide +kernel
theorem dX4_faceAt_26 : decode cX4_faceAt 26 = .ok (.invokeinterface 45 2, 5) := by decide +kernel
theorem dX4_faceAt_31 : decode cX4_faceAt 31 = .ok (.checkcast 49, 3) := by decide +kernel
theorem dX4_faceAt_34 : decode cX4_faceAt 34 = .ok (.areturn, 1) := by decide +kernel
set_option maxRecDepth 20000 in
theorem ggX4_mayOpen_Jx4a65c_size_8abf5 : GoodIn wsX4_mayOpen wsJx4a65c_size_8abf5 := goodIn_r _ [7, 8, 16, 17, 18] (by decide +kernel) (by decide +kernel)
set_option maxRecDepth 20000 in
theorem gX4_mayOpen_Jx4a65c_size_8abf5_f39Jx4a65c : GoodIn wsX4_mayOpen (va_wsF RX4 39 RJx4a65c ⟨"java/util/List", "size", "()I"⟩ yJx4a65c_size_8abf5 wsJx4a65c_size_8abf5) := goodIn_app (goodIn_of _ (by decide +kernel)) ggX4_mayOpen_Jx4a65c_size_8abf5
theorem dX4_mayOpen_0 : decode cX4_mayOpen 0 = .ok (.iload_n 1, 1) := by decide +kernel
theorem dX4_mayOpen_1 : decode cX4_mayOpen 1 = .ok (.aload_n 0, 1) := by decide +kernel
theorem dX4_mayOpen_2 : decode cX4_mayOpen 2 = .ok (.getfield 12, 3) := by decide +kernel
theorem dX4_mayOpen_5 : decode cX4_mayOpen 5 = .ok (.invokeinterface 39 1, 5) := by decide +kernel
theorem dX4_mayOpen_10 : decode cX4_mayOpen 10 = .ok (.if_icmp .ne 15, 3) := by decide +kernel
theorem dX4_mayOpen_13 : decode cX4_mayOpen 13 = .ok (.iload_n 1, 1) := by decide +kernel
theorem dX4_mayOpen_14 : decode cX4_mayOpen 14 = .ok (.aload_n 0, 1) := by decide +kernel
theorem dX4_mayOpen_15 : decode cX4_mayOpen 15 = .ok (.getfield 36, 3) := by decide +kernel
theorem dX4_mayOpen_18 : decode cX4_mayOpen 18 = .ok (.if_icmp .ge 7, 3) := by decide +kernel
theorem dX4_mayOpen_21 : decode cX4_mayOpen 21 = .ok (.iconst 1, 1) := by decide +kernel
theorem dX4_mayOpen_22 : decode cX4_mayOpen 22 = .ok (.goto 4, 3) := by decide +kernel
theorem dX4_mayOpen_25 : decode cX4_mayOpen 25 = .ok (.iconst 0, 1) := by decide +kernel
theorem dX4_mayOpen_26 : decode cX4_mayOpen 26 = .ok (.ireturn, 1) := by decide +kernel
set_option maxRecDepth 20000 in
theorem ggX4_openFace_X1_init : GoodIn wsX4_openFace wsX1_init := goodIn_r _ [7, 8, 9, 10, 11, 12, 13, 14, 15, 16, 17, 77, 78, 79, 80, 81, 82] (by decide +kernel) (by decide +kernel)
set_option maxRecDepth 20000 in
theorem gX4_openFace_X1_init_n51 : GoodIn wsX4_openFace (wsX1_init) := ggX4_openFace_X1_init
set_option maxRecDepth 20000 in
theorem ggX4_openFace_X6_yearOf : GoodIn wsX4_openFace wsX6_yearOf := goodIn_r _ [20] (by decide +kernel) (by decide +kernel)
set_option maxRecDepth 20000 in
theorem gX4_openFace_X6_yearOf_n52 : GoodIn wsX4_openFace (wsX6_yearOf) := ggX4_openFace_X6_yearOf
set_option maxRecDepth 20000 in
theorem ggX4_openFace_Jx4a65c_add_9ea2d : GoodIn wsX4_openFace wsJx4a65c_add_9ea2d := goodIn_r _ [25, 26, 27, 28, 29, 30, 31, 32, 24, 33, 34, 35, 36, 37, 38, 39, 40, 41, 42, 43, 44, 45, 46, 47, 48, 49, 50, 51, 52, 53, 54, 55, 56, 57, 58, 59, 60, 61, 62, 63, 64, 65, 66, 67, 68, 69, 70, 71, 72, 73, 74, 75, 76, 90, 91, 92] (by decide +kernel) (by decide +kernel)
set_option maxRecDepth 20000 in
theorem gX4_openFace_Jx4a65c_add_9ea2d_f59Jx4a65c : GoodIn wsX4_openFace (va_wsF RX4 59 RJx4a65c ⟨"java/util/List", "add", "(Ljava/lang/Object;)Z"⟩ yJx4a65c_add_9ea2d wsJx4a65c_add_9ea2d) := goodIn_app (goodIn_of _ (by decide +kernel)) ggX4_openFace_Jx4a65c_add_9ea2d
theorem dX4_openFace_0 : decode cX4_openFace 0 = .ok (.new 49, 3) := by decide +kernel
theorem dX4_openFace_3 : decode cX4_openFace 3 = .ok (.dup, 1) := by decide +kernel
theorem dX4_openFace_4 : decode cX4_openFace 4 = .ok (.invokespecial 51, 3) := by decide +kernel
theorem dX4_openFace_7 : decode cX4_openFace 7 = .ok (.astore_n 2, 1) := by decide +kernel
theorem dX4_openFace_8 : decode cX4_openFace 8 = .ok (.aload_n 2, 1) := by decide +kernel
theorem dX4_openFace_9 : decode cX4_openFace 9 = .ok (.iload_n 1, 1) := by decide +kernel
theorem dX4_openFace_10 : decode cX4_openFace 10 = .ok (.invokestatic 52, 3) := by decide +kernel
theorem dX4_openFace_13 : decode cX4_openFace 13 = .ok (.putfield 56, 3) := by decide +kernel
theorem dX4_openFace_16 : decode cX4_openFace 16 = .ok (.aload_n 0, 1) := by decide +kernel
theorem dX4_openFace_17 : decode cX4_openFace 17 = .ok (.getfield 12, 3) := by decide +kernel
theorem dX4_openFace_20 : decode cX4_openFace 20 = .ok (.aload_n 2, 1) := by decide +kernel
theorem dX4_openFace_21 : decode cX4_openFace 21 = .ok (.invokeinterface 59 2, 5) := by decide +kernel
theorem dX4_openFace_26 : decode cX4_openFace 26 = .ok (.pop, 1) := by decide +kernel
theorem dX4_openFace_27 : decode cX4_openFace 27 = .ok (.aload_n 2, 1) := by decide +kernel
theorem dX4_openFace_28 : decode cX4_openFace 28 = .ok (.areturn, 1) := by decide +kernel
set_option maxRecDepth 20000 in
theorem ggX4_streakOn_X6_yearOf : GoodIn wsX4_streakOn wsX6_yearOf := goodIn_r _ [6] (by decide +kernel) (by decide +kernel)
set_option maxRecDepth 20000 in
theorem gX4_streakOn_X6_yearOf_n52 : GoodIn wsX4_streakOn (wsX6_yearOf) := ggX4_streakOn_X6_yearOf
theorem dX4_streakOn_0 : decode cX4_streakOn 0 = .ok (.aload_n 1, 1) := by decide +kernel
theorem dX4_streakOn_1 : decode cX4_streakOn 1 = .ok (.dup, 1) := by decide +kernel
theorem dX4_streakOn_2 : decode cX4_streakOn 2 = .ok (.getfield 63, 3) := by decide +kernel
theorem dX4_streakOn_5 : decode cX4_streakOn 5 = .ok (.iconst 1, 1) := by decide +kernel
theorem dX4_streakOn_6 : decode cX4_streakOn 6 = .ok (.iadd, 1) := by decide +kernel
theorem dX4_streakOn_7 : decode cX4_streakOn 7 = .ok (.putfield 63, 3) := by decide +kernel
theorem dX4_streakOn_10 : decode cX4_streakOn 10 = .ok (.aload_n 1, 1) := by decide +kernel
theorem dX4_streakOn_11 : decode cX4_streakOn 11 = .ok (.iload_n 2, 1) := by decide +kernel
theorem dX4_streakOn_12 : decode cX4_streakOn 12 = .ok (.putfield 66, 3) := by decide +kernel
theorem dX4_streakOn_15 : decode cX4_streakOn 15 = .ok (.aload_n 0, 1) := by decide +kernel
theorem dX4_streakOn_16 : decode cX4_streakOn 16 = .ok (.dup, 1) := by decide +kernel
theorem dX4_streakOn_17 : decode cX4_streakOn 17 = .ok (.getfield 22, 3) := by decide +kernel
theorem dX4_streakOn_20 : decode cX4_streakOn 20 = .ok (.iconst 1, 1) := by decide +kernel
theorem dX4_streakOn_21 : decode cX4_streakOn 21 = .ok (.iload_n 2, 1) := by decide +kernel
theorem dX4_streakOn_22 : decode cX4_streakOn 22 = .ok (.invokestatic 52, 3) := by decide +kernel
theorem dX4_streakOn_25 : decode cX4_streakOn 25 = .ok (.ishl, 1) := by decide +kernel
theorem dX4_streakOn_26 : decode cX4_streakOn 26 = .ok (.ior, 1) := by decide +kernel
theorem dX4_streakOn_27 : decode cX4_streakOn 27 = .ok (.putfield 22, 3) := by decide +kernel
theorem dX4_streakOn_30 : decode cX4_streakOn 30 = .ok (.aload_n 1, 1) := by decide +kernel
theorem dX4_streakOn_31 : decode cX4_streakOn 31 = .ok (.getfield 63, 3) := by decide +kernel
theorem dX4_streakOn_34 : decode cX4_streakOn 34 = .ok (.ireturn, 1) := by decide +kernel
theorem dX4_restsIn_0 : decode cX4_restsIn 0 = .ok (.bipush 15, 2) := by decide +kernel
theorem dX4_restsIn_2 : decode cX4_restsIn 2 = .ok (.istore_n 2, 1) := by decide +kernel
theorem dX4_restsIn_3 : decode cX4_restsIn 3 = .ok (.iload_n 1, 1) := by decide +kernel
theorem dX4_restsIn_4 : decode cX4_restsIn 4 = .ok (.iconst 4, 1) := by decide +kernel
theorem dX4_restsIn_5 : decode cX4_restsIn 5 = .ok (.if_icmp .lt 21, 3) := by decide +kernel
theorem dX4_restsIn_8 : decode cX4_restsIn 8 = .ok (.aload_n 0, 1) := by decide +kernel
theorem dX4_restsIn_9 : decode cX4_restsIn 9 = .ok (.getfield 22, 3) := by decide +kernel
theorem dX4_restsIn_12 : decode cX4_restsIn 12 = .ok (.iload_n 1, 1) := by decide +kernel
theorem dX4_restsIn_13 : decode cX4_restsIn 13 = .ok (.iconst 4, 1) := by decide +kernel
theorem dX4_restsIn_14 : decode cX4_restsIn 14 = .ok (.isub, 1) := by decide +kernel
theorem dX4_restsIn_15 : decode cX4_restsIn 15 = .ok (.ishr, 1) := by decide +kernel
theorem dX4_restsIn_16 : decode cX4_restsIn 16 = .ok (.iload_n 2, 1) := by decide +kernel
theorem dX4_restsIn_17 : decode cX4_restsIn 17 = .ok (.iand, 1) := by decide +kernel
theorem dX4_restsIn_18 : decode cX4_restsIn 18 = .ok (.iload_n 2, 1) := by decide +kernel
theorem dX4_restsIn_19 : decode cX4_restsIn 19 = .ok (.if_icmp .ne 7, 3) := by decide +kernel
theorem dX4_restsIn_22 : decode cX4_restsIn 22 = .ok (.iconst 1, 1) := by decide +kernel
theorem dX4_restsIn_23 : decode cX4_restsIn 23 = .ok (.goto 4, 3) := by decide +kernel
theorem dX4_restsIn_26 : decode cX4_restsIn 26 = .ok (.iconst 0, 1) := by decide +kernel
theorem dX4_restsIn_27 : decode cX4_restsIn 27 = .ok (.ireturn, 1) := by decide +kernel
set_option maxRecDepth 20000 in
theorem ggX4_inCups_Jx4a65c_size_8abf5 : GoodIn wsX4_inCups wsJx4a65c_size_8abf5 := goodIn_r _ [8, 9, 40, 41, 42] (by decide +kernel) (by decide +kernel)
set_option maxRecDepth 20000 in
theorem gX4_inCups_Jx4a65c_size_8abf5_f39Jx4a65c : GoodIn wsX4_inCups (va_wsF RX4 39 RJx4a65c ⟨"java/util/List", "size", "()I"⟩ yJx4a65c_size_8abf5 wsJx4a65c_size_8abf5) := goodIn_app (goodIn_of _ (by decide +kernel)) ggX4_inCups_Jx4a65c_size_8abf5
set_option maxRecDepth 20000 in
theorem ggX4_inCups_Jx4a65c_get_915e3 : GoodIn wsX4_inCups wsJx4a65c_get_915e3 := goodIn_r _ [13, 9, 14, 15, 16, 17, 18, 19, 20, 21, 22, 23, 24, 7, 25, 26, 40, 41, 42] (by decide +kernel) (by decide +kernel)
set_option maxRecDepth 20000 in
theorem gX4_inCups_Jx4a65c_get_915e3_f45Jx4a65c : GoodIn wsX4_inCups (va_wsF RX4 45 RJx4a65c ⟨"java/util/List", "get", "(I)Ljava/lang/Object;"⟩ yJx4a65c_get_915e3 wsJx4a65c_get_915e3) := goodIn_app (goodIn_of _ (by decide +kernel)) ggX4_inCups_Jx4a65c_get_915e3
theorem dX4_inCups_0 : decode cX4_inCups 0 = .ok (.iconst 0, 1) := by decide +kernel
theorem dX4_inCups_1 : decode cX4_inCups 1 = .ok (.istore_n 1, 1) := by decide +kernel
theorem dX4_inCups_2 : decode cX4_inCups 2 = .ok (.iconst 0, 1) := by decide +kernel
theorem dX4_inCups_3 : decode cX4_inCups 3 = .ok (.istore_n 2, 1) := by decide +kernel
theorem dX4_inCups_4 : decode cX4_inCups 4 = .ok (.iload_n 2, 1) := by decide +kernel
theorem dX4_inCups_5 : decode cX4_inCups 5 = .ok (.aload_n 0, 1) := by decide +kernel
theorem dX4_inCups_6 : decode cX4_inCups 6 = .ok (.getfield 12, 3) := by decide +kernel
theorem dX4_inCups_9 : decode cX4_inCups 9 = .ok (.invokeinterface 39 1, 5) := by decide +kernel
theorem dX4_inCups_14 : decode cX4_inCups 14 = .ok (.if_icmp .ge 28, 3) := by decide +kernel
theorem dX4_inCups_17 : decode cX4_inCups 17 = .ok (.iload_n 1, 1) := by decide +kernel
theorem dX4_inCups_18 : decode cX4_inCups 18 = .ok (.aload_n 0, 1) := by decide +kernel
theorem dX4_inCups_19 : decode cX4_inCups 19 = .ok (.getfield 12, 3) := by decide +kernel
theorem dX4_inCups_22 : decode cX4_inCups 22 = .ok (.iload_n 2, 1) := by decide +kernel
theorem dX4_inCups_23 : decode cX4_inCups 23 = .ok (.invokeinterface 45 2, 5) := by decide +kernel
theorem dX4_inCups_28 : decode cX4_inCups 28 = .ok (.checkcast 49, 3) := by decide +kernel
theorem dX4_inCups_31 : decode cX4_inCups 31 = .ok (.getfield 69, 3) := by decide +kernel
theorem dX4_inCups_34 : decode cX4_inCups 34 = .ok (.iadd, 1) := by decide +kernel
theorem dX4_inCups_35 : decode cX4_inCups 35 = .ok (.istore_n 1, 1) := by decide +kernel
theorem dX4_inCups_36 : decode cX4_inCups 36 = .ok (.iinc 2 1, 3) := by decide +kernel
theorem dX4_inCups_39 : decode cX4_inCups 39 = .ok (.goto (-35), 3) := by decide +kernel
theorem dX4_inCups_42 : decode cX4_inCups 42 = .ok (.iload_n 1, 1) := by decide +kernel
theorem dX4_inCups_43 : decode cX4_inCups 43 = .ok (.ireturn, 1) := by decide +kernel
set_option maxRecDepth 20000 in
theorem ggX4_takeFire_X4_inCups : GoodIn wsX4_takeFire wsX4_inCups := goodIn_r _ [8, 2, 3, 9, 10, 11, 12, 13, 14, 15, 16, 17, 18, 19, 20, 21, 22, 23, 24, 25, 26, 27, 28, 29, 30, 31, 32, 40, 41, 42, 43, 44, 45, 46, 47, 48, 49, 50, 51, 52, 53, 54, 55] (by decide +kernel) (by decide +kernel)
set_option maxRecDepth 20000 in
theorem gX4_takeFire_X4_inCups : GoodIn wsX4_takeFire (wsV RX4 72 RX4 yX4_inCups wsX4_inCups) := goodIn_app (goodIn_of _ (by decide +kernel)) ggX4_takeFire_X4_inCups
set_option maxRecDepth 20000 in
theorem ggX4_takeFire_Jx4a65c_size_8abf5 : GoodIn wsX4_takeFire wsJx4a65c_size_8abf5 := goodIn_r _ [14, 15, 53, 54, 55] (by decide +kernel) (by decide +kernel)
set_option maxRecDepth 20000 in
theorem gX4_takeFire_Jx4a65c_size_8abf5_f39Jx4a65c : GoodIn wsX4_takeFire (va_wsF RX4 39 RJx4a65c ⟨"java/util/List", "size", "()I"⟩ yJx4a65c_size_8abf5 wsJx4a65c_size_8abf5) := goodIn_app (goodIn_of _ (by decide +kernel)) ggX4_takeFire_Jx4a65c_size_8abf5
set_option maxRecDepth 20000 in
theorem ggX4_takeFire_Jx4a65c_get_915e3 : GoodIn wsX4_takeFire wsJx4a65c_get_915e3 := goodIn_r _ [19, 15, 20, 21, 22, 23, 24, 25, 26, 27, 28, 29, 30, 13, 31, 32, 53, 54, 55] (by decide +kernel) (by decide +kernel)
set_option maxRecDepth 20000 in
theorem gX4_takeFire_Jx4a65c_get_915e3_f45Jx4a65c : GoodIn wsX4_takeFire (va_wsF RX4 45 RJx4a65c ⟨"java/util/List", "get", "(I)Ljava/lang/Object;"⟩ yJx4a65c_get_915e3 wsJx4a65c_get_915e3) := goodIn_app (goodIn_of _ (by decide +kernel)) ggX4_takeFire_Jx4a65c_get_915e3
set_option maxRecDepth 20000 in
theorem ggX4_takeFire_X1_clearCup : GoodIn wsX4_takeFire wsX1_clearCup := goodIn_r _ [37, 38, 39, 47, 48, 49, 50, 51, 52] (by decide +kernel) (by decide +kernel)
set_option maxRecDepth 20000 in
theorem gX4_takeFire_X1_clearCup : GoodIn wsX4_takeFire (wsV RX4 75 RX1 yX1_clearCup wsX1_clearCup) := goodIn_app (goodIn_of _ (by decide +kernel)) ggX4_takeFire_X1_clearCup
theorem dX4_takeFire_0 : decode cX4_takeFire 0 = .ok (.aload_n 0, 1) := by decide +kernel
theorem dX4_takeFire_1 : decode cX4_takeFire 1 = .ok (.invokevirtual 72, 3) := by decide +kernel
theorem dX4_takeFire_4 : decode cX4_takeFire 4 = .ok (.istore_n 1, 1) := by decide +kernel
theorem dX4_takeFire_5 : decode cX4_takeFire 5 = .ok (.aload_n 0, 1) := by decide +kernel
theorem dX4_takeFire_6 : decode cX4_takeFire 6 = .ok (.iconst 1, 1) := by decide +kernel
theorem dX4_takeFire_7 : decode cX4_takeFire 7 = .ok (.putfield 18, 3) := by decide +kernel
theorem dX4_takeFire_10 : decode cX4_takeFire 10 = .ok (.iconst 0, 1) := by decide +kernel
theorem dX4_takeFire_11 : decode cX4_takeFire 11 = .ok (.istore_n 2, 1) := by decide +kernel
theorem dX4_takeFire_12 : decode cX4_takeFire 12 = .ok (.iload_n 2, 1) := by decide +kernel
theorem dX4_takeFire_13 : decode cX4_takeFire 13 = .ok (.aload_n 0, 1) := by decide +kernel
theorem dX4_takeFire_14 : decode cX4_takeFire 14 = .ok (.getfield 12, 3) := by decide +kernel
theorem dX4_takeFire_17 : decode cX4_takeFire 17 = .ok (.invokeinterface 39 1, 5) := by decide +kernel
theorem dX4_takeFire_22 : decode cX4_takeFire 22 = .ok (.if_icmp .ge 25, 3) := by decide +kernel
theorem dX4_takeFire_25 : decode cX4_takeFire 25 = .ok (.aload_n 0, 1) := by decide +kernel
theorem dX4_takeFire_26 : decode cX4_takeFire 26 = .ok (.getfield 12, 3) := by decide +kernel
theorem dX4_takeFire_29 : decode cX4_takeFire 29 = .ok (.iload_n 2, 1) := by decide +kernel
theorem dX4_takeFire_30 : decode cX4_takeFire 30 = .ok (.invokeinterface 45 2, 5) := by decide +kernel
theorem dX4_takeFire_35 : decode cX4_takeFire 35 = .ok (.checkcast 49, 3) := by decide +kernel
theorem dX4_takeFire_38 : decode cX4_takeFire 38 = .ok (.invokevirtual 75, 3) := by decide +kernel
theorem dX4_takeFire_41 : decode cX4_takeFire 41 = .ok (.iinc 2 1, 3) := by decide +kernel
theorem dX4_takeFire_44 : decode cX4_takeFire 44 = .ok (.goto (-32), 3) := by decide +kernel
theorem dX4_takeFire_47 : decode cX4_takeFire 47 = .ok (.iload_n 1, 1) := by decide +kernel
theorem dX4_takeFire_48 : decode cX4_takeFire 48 = .ok (.ireturn, 1) := by decide +kernel
theorem dX5_init_0 : decode cX5_init 0 = .ok (.aload_n 0, 1) := by decide +kernel
theorem dX5_init_1 : decode cX5_init 1 = .ok (.invokespecial 1, 3) := by decide +kernel
theorem dX5_init_4 : decode cX5_init 4 = .ok (.aload_n 0, 1) := by decide +kernel
theorem dX5_init_5 : decode cX5_init 5 = .ok (.iconst 0, 1) := by decide +kernel
theorem dX5_init_6 : decode cX5_init 6 = .ok (.putfield 7, 3) := by decide +kernel
theorem dX5_init_9 : decode cX5_init 9 = .ok (.aload_n 0, 1) := by decide +kernel
theorem dX5_init_10 : decode cX5_init 10 = .ok (.iconst 0, 1) := by decide +kernel
theorem dX5_init_11 : decode cX5_init 11 = .ok (.putfield 13, 3) := by decide +kernel
theorem dX5_init_14 : decode cX5_init 14 = .ok (.aload_n 0, 1) := by decide +kernel
theorem dX5_init_15 : decode cX5_init 15 = .ok (.iconst 0, 1) := by decide +kernel
theorem dX5_init_16 : decode cX5_init 16 = .ok (.putfield 17, 3) := by decide +kernel
theorem dX5_init_19 : decode cX5_init 19 = .ok (.aload_n 0, 1) := by decide +kernel
theorem dX5_init_20 : decode cX5_init 20 = .ok (.iconst 0, 1) := by decide +kernel
theorem dX5_init_21 : decode cX5_init 21 = .ok (.putfield 20, 3) := by decide +kernel
theorem dX5_init_24 : decode cX5_init 24 = .ok (.aload_n 0, 1) := by decide +kernel
theorem dX5_init_25 : decode cX5_init 25 = .ok (.aconst_null, 1) := by decide +kernel
theorem dX5_init_26 : decode cX5_init 26 = .ok (.putfield 23, 3) := by decide +kernel
theorem dX5_init_29 : decode cX5_init 29 = .ok (.aload_n 0, 1) := by decide +kernel
theorem dX5_init_30 : decode cX5_init 30 = .ok (.iload_n 1, 1) := by decide +kernel
theorem dX5_init_31 : decode cX5_init 31 = .ok (.putfield 27, 3) := by decide +kernel
theorem dX5_init_34 : decode cX5_init 34 = .ok (.return_, 1) := by decide +kernel
theorem dX5_letFor_0 : decode cX5_letFor 0 = .ok (.aload_n 0, 1) := by decide +kernel
theorem dX5_letFor_1 : decode cX5_letFor 1 = .ok (.iconst 1, 1) := by decide +kernel
theorem dX5_letFor_2 : decode cX5_letFor 2 = .ok (.putfield 7, 3) := by decide +kernel
theorem dX5_letFor_5 : decode cX5_letFor 5 = .ok (.aload_n 0, 1) := by decide +kernel
theorem dX5_letFor_6 : decode cX5_letFor 6 = .ok (.iload_n 1, 1) := by decide +kernel
theorem dX5_letFor_7 : decode cX5_letFor 7 = .ok (.putfield 13, 3) := by decide +kernel
theorem dX5_letFor_10 : decode cX5_letFor 10 = .ok (.aload_n 0, 1) := by decide +kernel
theorem dX5_letFor_11 : decode cX5_letFor 11 = .ok (.iconst 0, 1) := by decide +kernel
theorem dX5_letFor_12 : decode cX5_letFor 12 = .ok (.putfield 17, 3) := by decide +kernel
theorem dX5_letFor_15 : decode cX5_letFor 15 = .ok (.aload_n 0, 1) := by decide +kernel
theorem dX5_letFor_16 : decode cX5_letFor 16 = .ok (.iconst 0, 1) := by decide +kernel
theorem dX5_letFor_17 : decode cX5_letFor 17 = .ok (.putfield 20, 3) := by decide +kernel
theorem dX5_letFor_20 : decode cX5_letFor 20 = .ok (.return_, 1) := by decide +kernel
theorem dX5_stillDue_0 : decode cX5_stillDue 0 = .ok (.aload_n 0, 1) := by decide +kernel
theorem dX5_stillDue_1 : decode cX5_stillDue 1 = .ok (.getfield 7, 3) := by decide +kernel
theorem dX5_stillDue_4 : decode cX5_stillDue 4 = .ok (.ifCond .eq 23, 3) := by decide +kernel
theorem dX5_stillDue_7 : decode cX5_stillDue 7 = .ok (.aload_n 0, 1) := by decide +kernel
theorem dX5_stillDue_8 : decode cX5_stillDue 8 = .ok (.getfield 17, 3) := by decide +kernel
theorem dX5_stillDue_11 : decode cX5_stillDue 11 = .ok (.aload_n 0, 1) := by decide +kernel
theorem dX5_stillDue_12 : decode cX5_stillDue 12 = .ok (.getfield 13, 3) := by decide +kernel
theorem dX5_stillDue_15 : decode cX5_stillDue 15 = .ok (.imul, 1) := by decide +kernel
theorem dX5_stillDue_16 : decode cX5_stillDue 16 = .ok (.bipush 100, 2) := by decide +kernel
theorem dX5_stillDue_18 : decode cX5_stillDue 18 = .ok (.idiv, 1) := by decide +kernel
theorem dX5_stillDue_19 : decode cX5_stillDue 19 = .ok (.aload_n 0, 1) := by decide +kernel
theorem dX5_stillDue_20 : decode cX5_stillDue 20 = .ok (.getfield 20, 3) := by decide +kernel
theorem dX5_stillDue_23 : decode cX5_stillDue 23 = .ok (.isub, 1) := by decide +kernel
theorem dX5_stillDue_24 : decode cX5_stillDue 24 = .ok (.goto 4, 3) := by decide +kernel
theorem dX5_stillDue_27 : decode cX5_stillDue 27 = .ok (.iconst 0, 1) := by decide +kernel
theorem dX5_stillDue_28 : decode cX5_stillDue 28 = .ok (.ireturn, 1) := by decide +kernel
set_option maxRecDepth 20000 in
theorem ggX5_openBarrel_X0_isFull : GoodIn wsX5_openBarrel wsX0_isFull := goodIn_r _ [6, 7, 8, 9, 10, 5, 11, 12, 13, 20, 21, 22, 23, 24, 25] (by decide +kernel) (by decide +kernel)
set_option maxRecDepth 20000 in
theorem gX5_openBarrel_X0_isFull : GoodIn wsX5_openBarrel (wsV RX5 30 RX0 yX0_isFull wsX0_isFull) := goodIn_app (goodIn_of _ (by decide +kernel)) ggX5_openBarrel_X0_isFull
theorem dX5_openBarrel_0 : decode cX5_openBarrel 0 = .ok (.aload_n 0, 1) := by decide +kernel
theorem dX5_openBarrel_1 : decode cX5_openBarrel 1 = .ok (.getfield 23, 3) := by decide +kernel
theorem dX5_openBarrel_4 : decode cX5_openBarrel 4 = .ok (.ifnull 13, 3) := by decide +kernel
theorem dX5_openBarrel_7 : decode cX5_openBarrel 7 = .ok (.aload_n 0, 1) := by decide +kernel
theorem dX5_openBarrel_8 : decode cX5_openBarrel 8 = .ok (.getfield 23, 3) := by decide +kernel
theorem dX5_openBarrel_11 : decode cX5_openBarrel 11 = .ok (.invokevirtual 30, 3) := by decide +kernel
theorem dX5_openBarrel_14 : decode cX5_openBarrel 14 = .ok (.ifCond .eq 7, 3) := by decide +kernel
theorem dX5_openBarrel_17 : decode cX5_openBarrel 17 = .ok (.aconst_null, 1) := by decide +kernel
theorem dX5_openBarrel_18 : decode cX5_openBarrel 18 = .ok (.goto 7, 3) := by decide +kernel
theorem dX5_openBarrel_21 : decode cX5_openBarrel 21 = .ok (.aload_n 0, 1) := by decide +kernel
theorem dX5_openBarrel_22 : decode cX5_openBarrel 22 = .ok (.getfield 23, 3) := by decide +kernel
theorem dX5_openBarrel_25 : decode cX5_openBarrel 25 = .ok (.areturn, 1) := by decide +kernel
set_option maxRecDepth 20000 in
theorem ggX6_init_Jx4a65c_init_da8c8 : GoodIn wsX6_init wsJx4a65c_init_da8c8 := goodIn_r _ [31, 32, 33, 34, 35, 36, 37, 38, 39, 40, 41, 42, 43, 2, 3, 103, 104, 105] (by decide +kernel) (by decide +kernel)
set_option maxRecDepth 20000 in
theorem gX6_init_Jx4a65c_init_da8c8 : GoodIn wsX6_init (wsJx4a65c_init_da8c8) := ggX6_init_Jx4a65c_init_da8c8
set_option maxRecDepth 20000 in
theorem ggX6_init_X3_init : GoodIn wsX6_init wsX3_init := goodIn_r _ [45, 46, 2, 3, 47, 48, 49, 106, 107, 108] (by decide +kernel) (by decide +kernel)
set_option maxRecDepth 20000 in
theorem gX6_init_X3_init_n34 : GoodIn wsX6_init (wsX3_init) := ggX6_init_X3_init
set_option maxRecDepth 20000 in
theorem ggX6_init_X2_init : GoodIn wsX6_init wsX2_init := goodIn_r _ [51, 52, 2, 3, 53, 54, 55, 56, 57, 58, 59, 60, 61, 62, 63, 64, 65, 66, 67, 15, 16, 68, 69, 70, 71, 72, 73, 74, 75, 76, 77, 78, 79, 80, 44, 45, 46, 47, 48, 49, 109, 110, 111, 112, 113, 114, 115, 116, 117, 118, 119, 120, 127, 128, 129, 130, 131, 132, 106, 107, 108] (by decide +kernel) (by decide +kernel)
set_option maxRecDepth 20000 in
theorem gX6_init_X2_init_n41 : GoodIn wsX6_init (wsX2_init) := ggX6_init_X2_init
set_option maxRecDepth 20000 in
theorem ggX6_init_X5_init : GoodIn wsX6_init wsX5_init := goodIn_r _ [83, 84, 2, 3, 85, 86, 87, 88, 89, 90, 121, 122, 123, 124, 125, 126] (by decide +kernel) (by decide +kernel)
set_option maxRecDepth 20000 in
theorem gX6_init_X5_init : GoodIn wsX6_init (wsX5_init) := ggX6_init_X5_init
theorem dX6_init_0 : decode cX6_init 0 = .ok (.aload_n 0, 1) := by decide +kernel
theorem dX6_init_1 : decode cX6_init 1 = .ok (.invokespecial 3, 3) := by decide +kernel
theorem dX6_init_4 : decode cX6_init 4 = .ok (.aload_n 0, 1) := by decide +kernel
theorem dX6_init_5 : decode cX6_init 5 = .ok (.sipush 3650, 3) := by decide +kernel
theorem dX6_init_8 : decode cX6_init 8 = .ok (.newarray .byte, 2) := by decide +kernel
theorem dX6_init_10 : decode cX6_init 10 = .ok (.putfield 9, 3) := by decide +kernel
theorem dX6_init_13 : decode cX6_init 13 = .ok (.aload_n 0, 1) := by decide +kernel
theorem dX6_init_14 : decode cX6_init 14 = .ok (.sipush 3650, 3) := by decide +kernel
theorem dX6_init_17 : decode cX6_init 17 = .ok (.newarray .byte, 2) := by decide +kernel
theorem dX6_init_19 : decode cX6_init 19 = .ok (.putfield 13, 3) := by decide +kernel
theorem dX6_init_22 : decode cX6_init 22 = .ok (.aload_n 0, 1) := by decide +kernel
theorem dX6_init_23 : decode cX6_init 23 = .ok (.bipush 6, 2) := by decide +kernel
theorem dX6_init_25 : decode cX6_init 25 = .ok (.anewarray 16, 3) := by decide +kernel
theorem dX6_init_28 : decode cX6_init 28 = .ok (.putfield 18, 3) := by decide +kernel
theorem dX6_init_31 : decode cX6_init 31 = .ok (.aload_n 0, 1) := by decide +kernel
theorem dX6_init_32 : decode cX6_init 32 = .ok (.new 22, 3) := by decide +kernel
theorem dX6_init_35 : decode cX6_init 35 = .ok (.dup, 1) := by decide +kernel
theorem dX6_init_36 : decode cX6_init 36 = .ok (.invokespecial 24, 3) := by decide +kernel
theorem dX6_init_39 : decode cX6_init 39 = .ok (.putfield 25, 3) := by decide +kernel
theorem dX6_init_42 : decode cX6_init 42 = .ok (.aload_n 0, 1) := by decide +kernel
theorem dX6_init_43 : decode cX6_init 43 = .ok (.new 22, 3) := by decide +kernel
theorem dX6_init_46 : decode cX6_init 46 = .ok (.dup, 1) := by decide +kernel
theorem dX6_init_47 : decode cX6_init 47 = .ok (.invokespecial 24, 3) := by decide +kernel
theorem dX6_init_50 : decode cX6_init 50 = .ok (.putfield 29, 3) := by decide +kernel
theorem dX6_init_53 : decode cX6_init 53 = .ok (.aload_n 0, 1) := by decide +kernel
theorem dX6_init_54 : decode cX6_init 54 = .ok (.new 32, 3) := by decide +kernel
theorem dX6_init_57 : decode cX6_init 57 = .ok (.dup, 1) := by decide +kernel
theorem dX6_init_58 : decode cX6_init 58 = .ok (.invokespecial 34, 3) := by decide +kernel
theorem dX6_init_61 : decode cX6_init 61 = .ok (.putfield 35, 3) := by decide +kernel
theorem dX6_init_64 : decode cX6_init 64 = .ok (.aload_n 0, 1) := by decide +kernel
theorem dX6_init_65 : decode cX6_init 65 = .ok (.new 39, 3) := by decide +kernel
theorem dX6_init_68 : decode cX6_init 68 = .ok (.dup, 1) := by decide +kernel
theorem dX6_init_69 : decode cX6_init 69 = .ok (.invokespecial 41, 3) := by decide +kernel
theorem dX6_init_72 : decode cX6_init 72 = .ok (.putfield 42, 3) := by decide +kernel
theorem dX6_init_75 : decode cX6_init 75 = .ok (.aload_n 0, 1) := by decide +kernel
theorem dX6_init_76 : decode cX6_init 76 = .ok (.iconst 0, 1) := by decide +kernel
theorem dX6_init_77 : decode cX6_init 77 = .ok (.putfield 46, 3) := by decide +kernel
theorem dX6_init_80 : decode cX6_init 80 = .ok (.aload_n 0, 1) := by decide +kernel
theorem dX6_init_81 : decode cX6_init 81 = .ok (.iconst 0, 1) := by decide +kernel
theorem dX6_init_82 : decode cX6_init 82 = .ok (.putfield 50, 3) := by decide +kernel
theorem dX6_init_85 : decode cX6_init 85 = .ok (.aload_n 0, 1) := by decide +kernel
theorem dX6_init_86 : decode cX6_init 86 = .ok (.iconst 0, 1) := by decide +kernel
theorem dX6_init_87 : decode cX6_init 87 = .ok (.putfield 53, 3) := by decide +kernel
theorem dX6_init_90 : decode cX6_init 90 = .ok (.aload_n 0, 1) := by decide +kernel
theorem dX6_init_91 : decode cX6_init 91 = .ok (.iconst 0, 1) := by decide +kernel
theorem dX6_init_92 : decode cX6_init 92 = .ok (.putfield 56, 3) := by decide +kernel
theorem dX6_init_95 : decode cX6_init 95 = .ok (.aload_n 0, 1) := by decide +kernel
theorem dX6_init_96 : decode cX6_init 96 = .ok (.iconst 0, 1) := by decide +kernel
theorem dX6_init_97 : decode cX6_init 97 = .ok (.putfield 59, 3) := by decide +kernel
theorem dX6_init_100 : decode cX6_init 100 = .ok (.iconst 0, 1) := by decide +kernel
theorem dX6_init_101 : decode cX6_init 101 = .ok (.istore_n 1, 1) := by decide +kernel
theorem dX6_init_102 : decode cX6_init 102 = .ok (.iload_n 1, 1) := by decide +kernel
theorem dX6_init_103 : decode cX6_init 103 = .ok (.sipush 3650, 3) := by decide +kernel
theorem dX6_init_106 : decode cX6_init 106 = .ok (.if_icmp .ge 16, 3) := by decide +kernel
theorem dX6_init_109 : decode cX6_init 109 = .ok (.aload_n 0, 1) := by decide +kernel
theorem dX6_init_110 : decode cX6_init 110 = .ok (.getfield 9, 3) := by decide +kernel
theorem dX6_init_113 : decode cX6_init 113 = .ok (.iload_n 1, 1) := by decide +kernel
theorem dX6_init_114 : decode cX6_init 114 = .ok (.iconst 5, 1) := by decide +kernel
theorem dX6_init_115 : decode cX6_init 115 = .ok (.bastore, 1) := by decide +kernel
theorem dX6_init_116 : decode cX6_init 116 = .ok (.iinc 1 1, 3) := by decide +kernel
theorem dX6_init_119 : decode cX6_init 119 = .ok (.goto (-17), 3) := by decide +kernel
theorem dX6_init_122 : decode cX6_init 122 = .ok (.iconst 0, 1) := by decide +kernel
theorem dX6_init_123 : decode cX6_init 123 = .ok (.istore_n 1, 1) := by decide +kernel
theorem dX6_init_124 : decode cX6_init 124 = .ok (.iload_n 1, 1) := by decide +kernel
theorem dX6_init_125 : decode cX6_init 125 = .ok (.bipush 6, 2) := by decide +kernel
theorem dX6_init_127 : decode cX6_init 127 = .ok (.if_icmp .ge 23, 3) := by decide +kernel
theorem dX6_init_130 : decode cX6_init 130 = .ok (.aload_n 0, 1) := by decide +kernel
theorem dX6_init_131 : decode cX6_init 131 = .ok (.getfield 18, 3) := by decide +kernel
theorem dX6_init_134 : decode cX6_init 134 = .ok (.iload_n 1, 1) := by decide +kernel
theorem dX6_init_135 : decode cX6_init 135 = .ok (.new 16, 3) := by decide +kernel
theorem dX6_init_138 : decode cX6_init 138 = .ok (.dup, 1) := by decide +kernel
theorem dX6_init_139 : decode cX6_init 139 = .ok (.iload_n 1, 1) := by decide +kernel
theorem dX6_init_140 : decode cX6_init 140 = .ok (.invokespecial 62, 3) := by decide +kernel
theorem dX6_init_143 : decode cX6_init 143 = .ok (.aastore, 1) := by decide +kernel
theorem dX6_init_144 : decode cX6_init 144 = .ok (.iinc 1 1, 3) := by decide +kernel
theorem dX6_init_147 : decode cX6_init 147 = .ok (.goto (-23), 3) := by decide +kernel
theorem dX6_init_150 : decode cX6_init 150 = .ok (.return_, 1) := by decide +kernel
set_option maxRecDepth 20000 in
theorem ggX6_tree_X6_woodAt : GoodIn wsX6_tree wsX6_woodAt := goodIn_r _ [9, 10, 108, 109, 110, 111, 112, 113, 114, 115, 116, 117, 118, 119] (by decide +kernel) (by decide +kernel)
set_option maxRecDepth 20000 in
theorem gX6_tree_X6_woodAt : GoodIn wsX6_tree (wsV RX6 65 RX6 yX6_woodAt wsX6_woodAt) := goodIn_app (goodIn_of _ (by decide +kernel)) ggX6_tree_X6_woodAt
set_option maxRecDepth 20000 in
theorem ggX6_tree_X6_isPlace : GoodIn wsX6_tree wsX6_isPlace := goodIn_r _ [13] (by decide +kernel) (by decide +kernel)
set_option maxRecDepth 20000 in
theorem gX6_tree_X6_isPlace : GoodIn wsX6_tree (va_wsS RX6 69 yX6_isPlace wsX6_isPlace) := goodIn_app (goodIn_of _ (by decide +kernel)) ggX6_tree_X6_isPlace
set_option maxRecDepth 20000 in
theorem ggX6_tree_X6_isGirth : GoodIn wsX6_tree wsX6_isGirth := goodIn_r _ [16] (by decide +kernel) (by decide +kernel)
set_option maxRecDepth 20000 in
theorem gX6_tree_X6_isGirth : GoodIn wsX6_tree (va_wsS RX6 73 yX6_isGirth wsX6_isGirth) := goodIn_app (goodIn_of _ (by decide +kernel)) ggX6_tree_X6_isGirth
set_option maxRecDepth 20000 in
theorem ggX6_tree_Jx4a65c_size_8abf5 : GoodIn wsX6_tree wsJx4a65c_size_8abf5 := goodIn_r _ [21, 22, 127, 128, 129] (by decide +kernel) (by decide +kernel)
set_option maxRecDepth 20000 in
theorem gX6_tree_Jx4a65c_size_8abf5_f76Jx4a65c : GoodIn wsX6_tree (va_wsF RX6 76 RJx4a65c ⟨"java/util/List", "size", "()I"⟩ yJx4a65c_size_8abf5 wsJx4a65c_size_8abf5) := goodIn_app (goodIn_of _ (by decide +kernel)) ggX6_tree_Jx4a65c_size_8abf5
set_option maxRecDepth 20000 in
theorem ggX6_tree_X6_facesBorneBy : GoodIn wsX6_tree wsX6_facesBorneBy := goodIn_r _ [25] (by decide +kernel) (by decide +kernel)
set_option maxRecDepth 20000 in
theorem gX6_tree_X6_facesBorneBy : GoodIn wsX6_tree (va_wsS RX6 84 yX6_facesBorneBy wsX6_facesBorneBy) := goodIn_app (goodIn_of _ (by decide +kernel)) ggX6_tree_X6_facesBorneBy
set_option maxRecDepth 20000 in
theorem ggX6_tree_X4_init : GoodIn wsX6_tree wsX4_init := goodIn_r _ [28, 29, 30, 31, 32, 33, 20, 34, 35, 36, 37, 38, 39, 40, 41, 42, 43, 44, 45, 46, 47, 48, 49, 50, 51, 52, 53, 54, 55, 127, 128, 129, 120, 121, 122, 123, 124, 125, 126] (by decide +kernel) (by decide +kernel)
set_option maxRecDepth 20000 in
theorem gX6_tree_X4_init : GoodIn wsX6_tree (wsX4_init) := ggX6_tree_X4_init
set_option maxRecDepth 20000 in
theorem ggX6_tree_Jx4a65c_add_9ea2d : GoodIn wsX6_tree wsJx4a65c_add_9ea2d := goodIn_r _ [59, 60, 61, 45, 22, 62, 63, 64, 20, 65, 66, 67, 68, 69, 70, 71, 72, 73, 44, 74, 75, 76, 77, 78, 79, 80, 81, 82, 83, 84, 85, 86, 87, 88, 89, 90, 91, 92, 93, 94, 95, 96, 97, 98, 99, 100, 101, 102, 103, 104, 105, 106, 107, 127, 128, 129] (by decide +kernel) (by decide +kernel)
set_option maxRecDepth 20000 in
theorem gX6_tree_Jx4a65c_add_9ea2d_f91Jx4a65c : GoodIn wsX6_tree (va_wsF RX6 91 RJx4a65c ⟨"java/util/List", "add", "(Ljava/lang/Object;)Z"⟩ yJx4a65c_add_9ea2d wsJx4a65c_add_9ea2d) := goodIn_app (goodIn_of _ (by decide +kernel)) ggX6_tree_Jx4a65c_add_9ea2d
theorem dX6_tree_0 : decode cX6_tree 0 = .ok (.aload_n 0, 1) := by decide +kernel
theorem dX6_tree_1 : decode cX6_tree 1 = .ok (.iload_n 1, 1) := by decide +kernel
theorem dX6_tree_2 : decode cX6_tree 2 = .ok (.invokevirtual 65, 3) := by decide +kernel
theorem dX6_tree_5 : decode cX6_tree 5 = .ok (.astore 4, 2) := by decide +kernel
theorem dX6_tree_7 : decode cX6_tree 7 = .ok (.aload 4, 2) := by decide +kernel
theorem dX6_tree_9 : decode cX6_tree 9 = .ok (.ifnull 31, 3) := by decide +kernel
theorem dX6_tree_12 : decode cX6_tree 12 = .ok (.iload_n 2, 1) := by decide +kernel
theorem dX6_tree_13 : decode cX6_tree 13 = .ok (.invokestatic 69, 3) := by decide +kernel
theorem dX6_tree_16 : decode cX6_tree 16 = .ok (.ifCond .eq 24, 3) := by decide +kernel
theorem dX6_tree_19 : decode cX6_tree 19 = .ok (.iload_n 3, 1) := by decide +kernel
theorem dX6_tree_20 : decode cX6_tree 20 = .ok (.invokestatic 73, 3) := by decide +kernel
theorem dX6_tree_23 : decode cX6_tree 23 = .ok (.ifCond .eq 17, 3) := by decide +kernel
theorem dX6_tree_26 : decode cX6_tree 26 = .ok (.aload_n 0, 1) := by decide +kernel
theorem dX6_tree_27 : decode cX6_tree 27 = .ok (.getfield 25, 3) := by decide +kernel
theorem dX6_tree_30 : decode cX6_tree 30 = .ok (.invokeinterface 76 1, 5) := by decide +kernel
theorem dX6_tree_35 : decode cX6_tree 35 = .ok (.bipush 60, 2) := by decide +kernel
theorem dX6_tree_37 : decode cX6_tree 37 = .ok (.if_icmp .lt 5, 3) := by decide +kernel
theorem dX6_tree_40 : decode cX6_tree 40 = .ok (.iconst (-1), 1) := by decide +kernel
theorem dX6_tree_41 : decode cX6_tree 41 = .ok (.ireturn, 1) := by decide +kernel
theorem dX6_tree_42 : decode cX6_tree 42 = .ok (.aload_n 0, 1) := by decide +kernel
theorem dX6_tree_43 : decode cX6_tree 43 = .ok (.getfield 25, 3) := by decide +kernel
theorem dX6_tree_46 : decode cX6_tree 46 = .ok (.new 82, 3) := by decide +kernel
theorem dX6_tree_49 : decode cX6_tree 49 = .ok (.dup, 1) := by decide +kernel
theorem dX6_tree_50 : decode cX6_tree 50 = .ok (.aload_n 0, 1) := by decide +kernel
theorem dX6_tree_51 : decode cX6_tree 51 = .ok (.getfield 25, 3) := by decide +kernel
theorem dX6_tree_54 : decode cX6_tree 54 = .ok (.invokeinterface 76 1, 5) := by decide +kernel
theorem dX6_tree_59 : decode cX6_tree 59 = .ok (.aload 4, 2) := by decide +kernel
theorem dX6_tree_61 : decode cX6_tree 61 = .ok (.iload_n 2, 1) := by decide +kernel
theorem dX6_tree_62 : decode cX6_tree 62 = .ok (.iload_n 3, 1) := by decide +kernel
theorem dX6_tree_63 : decode cX6_tree 63 = .ok (.invokestatic 84, 3) := by decide +kernel
theorem dX6_tree_66 : decode cX6_tree 66 = .ok (.invokespecial 88, 3) := by decide +kernel
theorem dX6_tree_69 : decode cX6_tree 69 = .ok (.invokeinterface 91 2, 5) := by decide +kernel
theorem dX6_tree_74 : decode cX6_tree 74 = .ok (.pop, 1) := by decide +kernel
theorem dX6_tree_75 : decode cX6_tree 75 = .ok (.aload_n 0, 1) := by decide +kernel
theorem dX6_tree_76 : decode cX6_tree 76 = .ok (.getfield 25, 3) := by decide +kernel
theorem dX6_tree_79 : decode cX6_tree 79 = .ok (.invokeinterface 76 1, 5) := by decide +kernel
theorem dX6_tree_84 : decode cX6_tree 84 = .ok (.iconst 1, 1) := by decide +kernel
theorem dX6_tree_85 : decode cX6_tree 85 = .ok (.isub, 1) := by decide +kernel
theorem dX6_tree_86 : decode cX6_tree 86 = .ok (.ireturn, 1) := by decide +kernel
set_option maxRecDepth 20000 in
theorem ggX6_bears_X6_isGirth : GoodIn wsX6_bears wsX6_isGirth := goodIn_r _ [4] (by decide +kernel) (by decide +kernel)
set_option maxRecDepth 20000 in
theorem gX6_bears_X6_isGirth : GoodIn wsX6_bears (va_wsS RX6 73 yX6_isGirth wsX6_isGirth) := goodIn_app (goodIn_of _ (by decide +kernel)) ggX6_bears_X6_isGirth
set_option maxRecDepth 20000 in
theorem ggX6_bears_X6_facesBorneBy : GoodIn wsX6_bears wsX6_facesBorneBy := goodIn_r _ [7] (by decide +kernel) (by decide +kernel)
set_option maxRecDepth 20000 in
theorem gX6_bears_X6_facesBorneBy : GoodIn wsX6_bears (va_wsS RX6 84 yX6_facesBorneBy wsX6_facesBorneBy) := goodIn_app (goodIn_of _ (by decide +kernel)) ggX6_bears_X6_facesBorneBy
theorem dX6_bears_0 : decode cX6_bears 0 = .ok (.iload_n 1, 1) := by decide +kernel
theorem dX6_bears_1 : decode cX6_bears 1 = .ok (.invokestatic 73, 3) := by decide +kernel
theorem dX6_bears_4 : decode cX6_bears 4 = .ok (.ifCond .eq 10, 3) := by decide +kernel
theorem dX6_bears_7 : decode cX6_bears 7 = .ok (.iload_n 1, 1) := by decide +kernel
theorem dX6_bears_8 : decode cX6_bears 8 = .ok (.invokestatic 84, 3) := by decide +kernel
theorem dX6_bears_11 : decode cX6_bears 11 = .ok (.goto 4, 3) := by decide +kernel
theorem dX6_bears_14 : decode cX6_bears 14 = .ok (.iconst (-1), 1) := by decide +kernel
theorem dX6_bears_15 : decode cX6_bears 15 = .ok (.ireturn, 1) := by decide +kernel
set_option maxRecDepth 20000 in
theorem ggX6_weather_X6_isWeather : GoodIn wsX6_weather wsX6_isWeather := goodIn_r _ [7] (by decide +kernel) (by decide +kernel)
set_option maxRecDepth 20000 in
theorem gX6_weather_X6_isWeather : GoodIn wsX6_weather (va_wsS RX6 95 yX6_isWeather wsX6_isWeather) := goodIn_app (goodIn_of _ (by decide +kernel)) ggX6_weather_X6_isWeather
theorem dX6_weather_0 : decode cX6_weather 0 = .ok (.iload_n 3, 1) := by decide +kernel
theorem dX6_weather_1 : decode cX6_weather 1 = .ok (.invokestatic 95, 3) := by decide +kernel
theorem dX6_weather_4 : decode cX6_weather 4 = .ok (.ifCond .eq 11, 3) := by decide +kernel
theorem dX6_weather_7 : decode cX6_weather 7 = .ok (.iload 4, 2) := by decide +kernel
theorem dX6_weather_9 : decode cX6_weather 9 = .ok (.invokestatic 95, 3) := by decide +kernel
theorem dX6_weather_12 : decode cX6_weather 12 = .ok (.ifCond .ne 5, 3) := by decide +kernel
theorem dX6_weather_15 : decode cX6_weather 15 = .ok (.iconst 0, 1) := by decide +kernel
theorem dX6_weather_16 : decode cX6_weather 16 = .ok (.ireturn, 1) := by decide +kernel
theorem dX6_weather_17 : decode cX6_weather 17 = .ok (.iload_n 1, 1) := by decide +kernel
theorem dX6_weather_18 : decode cX6_weather 18 = .ok (.aload_n 0, 1) := by decide +kernel
theorem dX6_weather_19 : decode cX6_weather 19 = .ok (.getfield 46, 3) := by decide +kernel
theorem dX6_weather_22 : decode cX6_weather 22 = .ok (.if_icmp .lt 15, 3) := by decide +kernel
theorem dX6_weather_25 : decode cX6_weather 25 = .ok (.iload_n 2, 1) := by decide +kernel
theorem dX6_weather_26 : decode cX6_weather 26 = .ok (.iload_n 1, 1) := by decide +kernel
theorem dX6_weather_27 : decode cX6_weather 27 = .ok (.if_icmp .lt 10, 3) := by decide +kernel
theorem dX6_weather_30 : decode cX6_weather 30 = .ok (.iload_n 2, 1) := by decide +kernel
theorem dX6_weather_31 : decode cX6_weather 31 = .ok (.sipush 3650, 3) := by decide +kernel
theorem dX6_weather_34 : decode cX6_weather 34 = .ok (.if_icmp .lt 5, 3) := by decide +kernel
theorem dX6_weather_37 : decode cX6_weather 37 = .ok (.iconst 0, 1) := by decide +kernel
theorem dX6_weather_38 : decode cX6_weather 38 = .ok (.ireturn, 1) := by decide +kernel
theorem dX6_weather_39 : decode cX6_weather 39 = .ok (.iload_n 1, 1) := by decide +kernel
theorem dX6_weather_40 : decode cX6_weather 40 = .ok (.istore 5, 2) := by decide +kernel
theorem dX6_weather_42 : decode cX6_weather 42 = .ok (.iload 5, 2) := by decide +kernel
theorem dX6_weather_44 : decode cX6_weather 44 = .ok (.iload_n 2, 1) := by decide +kernel
theorem dX6_weather_45 : decode cX6_weather 45 = .ok (.if_icmp .gt 28, 3) := by decide +kernel
end
section
theorem dX6_weather_48 : decode cX6_weather 48 = .ok (.aload_n 0, 1) := by decide +kernel
theorem dX6_weather_49 : decode cX6_weather 49 = .ok (.getfield 9, 3) := by decide +kernel
theorem dX6_weather_52 : decode cX6_weather 52 = .ok (.iload 5, 2) := by decide +kernel
theorem dX6_weather_54 : decode cX6_weather 54 = .ok (.iload_n 3, 1) := by decide +kernel
theorem dX6_weather_55 : decode cX6_weather 55 = .ok (.i2b, 1) := by decide +kernel
theorem dX6_weather_56 : decode cX6_weather 56 = .ok (.bastore, 1) := by decide +kernel
theorem dX6_weather_57 : decode cX6_weather 57 = .ok (.aload_n 0, 1) := by decide +kernel
theorem dX6_weather_58 : decode cX6_weather 58 = .ok (.getfield 13, 3) := by decide +kernel
theorem dX6_weather_61 : decode cX6_weather 61 = .ok (.iload 5, 2) := by decide +kernel
theorem dX6_weather_63 : decode cX6_weather 63 = .ok (.iload 4, 2) := by decide +kernel
theorem dX6_weather_65 : decode cX6_weather 65 = .ok (.i2b, 1) := by decide +kernel
theorem dX6_weather_66 : decode cX6_weather 66 = .ok (.bastore, 1) := by decide +kernel
theorem dX6_weather_67 : decode cX6_weather 67 = .ok (.iinc 5 1, 3) := by decide +kernel
theorem dX6_weather_70 : decode cX6_weather 70 = .ok (.goto (-28), 3) := by decide +kernel
theorem dX6_weather_73 : decode cX6_weather 73 = .ok (.iconst 1, 1) := by decide +kernel
theorem dX6_weather_74 : decode cX6_weather 74 = .ok (.ireturn, 1) := by decide +kernel
set_option maxRecDepth 20000 in
theorem ggX6_cut_X6_treeAt : GoodIn wsX6_cut wsX6_treeAt := goodIn_r _ [7, 8, 9, 10, 11, 12, 13, 14, 15, 16, 17, 18, 19, 20, 21, 22, 23, 24, 25, 26, 27, 28, 29, 30, 31, 32, 145, 146, 147, 148, 149, 150, 151, 152, 153, 154, 155, 156, 157, 158, 159] (by decide +kernel) (by decide +kernel)
set_option maxRecDepth 20000 in
theorem gX6_cut_X6_treeAt : GoodIn wsX6_cut (wsV RX6 98 RX6 yX6_treeAt wsX6_treeAt) := goodIn_app (goodIn_of _ (by decide +kernel)) ggX6_cut_X6_treeAt
set_option maxRecDepth 20000 in
theorem ggX6_cut_X6_yearOf : GoodIn wsX6_cut wsX6_yearOf := goodIn_r _ [35] (by decide +kernel) (by decide +kernel)
set_option maxRecDepth 20000 in
theorem gX6_cut_X6_yearOf : GoodIn wsX6_cut (va_wsS RX6 106 yX6_yearOf wsX6_yearOf) := goodIn_app (goodIn_of _ (by decide +kernel)) ggX6_cut_X6_yearOf
set_option maxRecDepth 20000 in
theorem ggX6_cut_X4_restsIn : GoodIn wsX6_cut wsX4_restsIn := goodIn_r _ [40, 41, 138, 139, 140, 141, 142, 143, 144] (by decide +kernel) (by decide +kernel)
set_option maxRecDepth 20000 in
theorem gX6_cut_X4_restsIn : GoodIn wsX6_cut (wsV RX6 109 RX4 yX4_restsIn wsX4_restsIn) := goodIn_app (goodIn_of _ (by decide +kernel)) ggX6_cut_X4_restsIn
set_option maxRecDepth 20000 in
theorem ggX6_cut_X4_faceAt : GoodIn wsX6_cut wsX4_faceAt := goodIn_r _ [45, 46, 47, 48, 11, 12, 13, 14, 15, 49, 17, 18, 19, 20, 21, 22, 23, 24, 25, 26, 27, 28, 29, 30, 31, 32, 138, 139, 140, 141, 142, 143, 144, 157, 158, 159] (by decide +kernel) (by decide +kernel)
set_option maxRecDepth 20000 in
theorem gX6_cut_X4_faceAt : GoodIn wsX6_cut (wsV RX6 112 RX4 yX4_faceAt wsX4_faceAt) := goodIn_app (goodIn_of _ (by decide +kernel)) ggX6_cut_X4_faceAt
set_option maxRecDepth 20000 in
theorem ggX6_cut_X1_mayBeCutOn : GoodIn wsX6_cut wsX1_mayBeCutOn := goodIn_r _ [54, 55, 56, 160, 161, 162, 163, 164, 165] (by decide +kernel) (by decide +kernel)
set_option maxRecDepth 20000 in
theorem gX6_cut_X1_mayBeCutOn : GoodIn wsX6_cut (wsV RX6 116 RX1 yX1_mayBeCutOn wsX1_mayBeCutOn) := goodIn_app (goodIn_of _ (by decide +kernel)) ggX6_cut_X1_mayBeCutOn
set_option maxRecDepth 20000 in
theorem ggX6_cut_X4_streakOn : GoodIn wsX6_cut wsX4_streakOn := goodIn_r _ [60, 61, 62, 41, 34, 6, 35, 160, 161, 162, 163, 164, 165, 138, 139, 140, 141, 142, 143, 144] (by decide +kernel) (by decide +kernel)
set_option maxRecDepth 20000 in
theorem gX6_cut_X4_streakOn : GoodIn wsX6_cut (wsV RX6 121 RX4 yX4_streakOn wsX4_streakOn) := goodIn_app (goodIn_of _ (by decide +kernel)) ggX6_cut_X4_streakOn
set_option maxRecDepth 20000 in
theorem ggX6_cut_X4_mayOpen : GoodIn wsX6_cut wsX4_mayOpen := goodIn_r _ [66, 46, 67, 48, 11, 12, 13, 14, 15, 138, 139, 140, 141, 142, 143, 144, 157, 158, 159] (by decide +kernel) (by decide +kernel)
set_option maxRecDepth 20000 in
theorem gX6_cut_X4_mayOpen : GoodIn wsX6_cut (wsV RX6 125 RX4 yX4_mayOpen wsX4_mayOpen) := goodIn_app (goodIn_of _ (by decide +kernel)) ggX6_cut_X4_mayOpen
set_option maxRecDepth 20000 in
theorem ggX6_cut_X4_openFace : GoodIn wsX6_cut wsX4_openFace := goodIn_r _ [71, 72, 73, 53, 74, 46, 75, 76, 77, 78, 79, 55, 56, 80, 81, 82, 83, 84, 34, 6, 35, 85, 86, 87, 13, 88, 89, 90, 32, 15, 91, 92, 93, 94, 95, 96, 97, 98, 99, 100, 101, 102, 103, 104, 105, 106, 107, 108, 109, 110, 111, 112, 113, 114, 115, 116, 117, 118, 119, 120, 121, 122, 123, 124, 125, 126, 127, 128, 129, 130, 131, 132, 133, 134, 135, 136, 137, 160, 161, 162, 163, 164, 165, 138, 139, 140, 141, 142, 143, 144, 157, 158, 159] (by decide +kernel) (by decide +kernel)
set_option maxRecDepth 20000 in
theorem gX6_cut_X4_openFace : GoodIn wsX6_cut (wsV RX6 128 RX4 yX4_openFace wsX4_openFace) := goodIn_app (goodIn_of _ (by decide +kernel)) ggX6_cut_X4_openFace
theorem dX6_cut_0 : decode cX6_cut 0 = .ok (.aload_n 0, 1) := by decide +kernel
theorem dX6_cut_1 : decode cX6_cut 1 = .ok (.iload_n 1, 1) := by decide +kernel
theorem dX6_cut_2 : decode cX6_cut 2 = .ok (.invokevirtual 98, 3) := by decide +kernel
theorem dX6_cut_5 : decode cX6_cut 5 = .ok (.astore_n 3, 1) := by decide +kernel
theorem dX6_cut_6 : decode cX6_cut 6 = .ok (.aload_n 3, 1) := by decide +kernel
theorem dX6_cut_7 : decode cX6_cut 7 = .ok (.ifnull 24, 3) := by decide +kernel
theorem dX6_cut_10 : decode cX6_cut 10 = .ok (.aload_n 3, 1) := by decide +kernel
theorem dX6_cut_11 : decode cX6_cut 11 = .ok (.getfield 102, 3) := by decide +kernel
theorem dX6_cut_14 : decode cX6_cut 14 = .ok (.ifCond .ne 17, 3) := by decide +kernel
theorem dX6_cut_17 : decode cX6_cut 17 = .ok (.aload_n 3, 1) := by decide +kernel
theorem dX6_cut_18 : decode cX6_cut 18 = .ok (.aload_n 0, 1) := by decide +kernel
theorem dX6_cut_19 : decode cX6_cut 19 = .ok (.getfield 46, 3) := by decide +kernel
theorem dX6_cut_22 : decode cX6_cut 22 = .ok (.invokestatic 106, 3) := by decide +kernel
theorem dX6_cut_25 : decode cX6_cut 25 = .ok (.invokevirtual 109, 3) := by decide +kernel
theorem dX6_cut_28 : decode cX6_cut 28 = .ok (.ifCond .eq 5, 3) := by decide +kernel
theorem dX6_cut_31 : decode cX6_cut 31 = .ok (.iconst (-1), 1) := by decide +kernel
theorem dX6_cut_32 : decode cX6_cut 32 = .ok (.ireturn, 1) := by decide +kernel
theorem dX6_cut_33 : decode cX6_cut 33 = .ok (.aload_n 3, 1) := by decide +kernel
theorem dX6_cut_34 : decode cX6_cut 34 = .ok (.iload_n 2, 1) := by decide +kernel
theorem dX6_cut_35 : decode cX6_cut 35 = .ok (.invokevirtual 112, 3) := by decide +kernel
theorem dX6_cut_38 : decode cX6_cut 38 = .ok (.astore 4, 2) := by decide +kernel
theorem dX6_cut_40 : decode cX6_cut 40 = .ok (.aload 4, 2) := by decide +kernel
theorem dX6_cut_42 : decode cX6_cut 42 = .ok (.ifnull 30, 3) := by decide +kernel
theorem dX6_cut_45 : decode cX6_cut 45 = .ok (.aload 4, 2) := by decide +kernel
theorem dX6_cut_47 : decode cX6_cut 47 = .ok (.aload_n 0, 1) := by decide +kernel
theorem dX6_cut_48 : decode cX6_cut 48 = .ok (.getfield 46, 3) := by decide +kernel
theorem dX6_cut_51 : decode cX6_cut 51 = .ok (.invokevirtual 116, 3) := by decide +kernel
theorem dX6_cut_54 : decode cX6_cut 54 = .ok (.ifCond .eq 16, 3) := by decide +kernel
theorem dX6_cut_57 : decode cX6_cut 57 = .ok (.aload_n 3, 1) := by decide +kernel
theorem dX6_cut_58 : decode cX6_cut 58 = .ok (.aload 4, 2) := by decide +kernel
theorem dX6_cut_60 : decode cX6_cut 60 = .ok (.aload_n 0, 1) := by decide +kernel
theorem dX6_cut_61 : decode cX6_cut 61 = .ok (.getfield 46, 3) := by decide +kernel
theorem dX6_cut_64 : decode cX6_cut 64 = .ok (.invokevirtual 121, 3) := by decide +kernel
theorem dX6_cut_67 : decode cX6_cut 67 = .ok (.goto 4, 3) := by decide +kernel
theorem dX6_cut_70 : decode cX6_cut 70 = .ok (.iconst (-1), 1) := by decide +kernel
theorem dX6_cut_71 : decode cX6_cut 71 = .ok (.ireturn, 1) := by decide +kernel
theorem dX6_cut_72 : decode cX6_cut 72 = .ok (.aload_n 3, 1) := by decide +kernel
theorem dX6_cut_73 : decode cX6_cut 73 = .ok (.iload_n 2, 1) := by decide +kernel
theorem dX6_cut_74 : decode cX6_cut 74 = .ok (.invokevirtual 125, 3) := by decide +kernel
theorem dX6_cut_77 : decode cX6_cut 77 = .ok (.ifCond .eq 22, 3) := by decide +kernel
theorem dX6_cut_80 : decode cX6_cut 80 = .ok (.aload_n 3, 1) := by decide +kernel
theorem dX6_cut_81 : decode cX6_cut 81 = .ok (.aload_n 3, 1) := by decide +kernel
theorem dX6_cut_82 : decode cX6_cut 82 = .ok (.aload_n 0, 1) := by decide +kernel
theorem dX6_cut_83 : decode cX6_cut 83 = .ok (.getfield 46, 3) := by decide +kernel
theorem dX6_cut_86 : decode cX6_cut 86 = .ok (.invokevirtual 128, 3) := by decide +kernel
theorem dX6_cut_89 : decode cX6_cut 89 = .ok (.aload_n 0, 1) := by decide +kernel
theorem dX6_cut_90 : decode cX6_cut 90 = .ok (.getfield 46, 3) := by decide +kernel
theorem dX6_cut_93 : decode cX6_cut 93 = .ok (.invokevirtual 121, 3) := by decide +kernel
theorem dX6_cut_96 : decode cX6_cut 96 = .ok (.goto 4, 3) := by decide +kernel
theorem dX6_cut_99 : decode cX6_cut 99 = .ok (.iconst (-1), 1) := by decide +kernel
theorem dX6_cut_100 : decode cX6_cut 100 = .ok (.ireturn, 1) := by decide +kernel
set_option maxRecDepth 20000 in
theorem ggX6_rests_X6_treeAt : GoodIn wsX6_rests wsX6_treeAt := goodIn_r _ [6, 7, 8, 9, 10, 11, 12, 13, 14, 15, 16, 17, 18, 19, 20, 21, 22, 23, 24, 25, 26, 27, 28, 29, 30, 31, 41, 42, 43, 44, 45, 46, 47, 48, 49, 50, 51, 52, 53, 54, 55] (by decide +kernel) (by decide +kernel)
set_option maxRecDepth 20000 in
theorem gX6_rests_X6_treeAt : GoodIn wsX6_rests (wsV RX6 98 RX6 yX6_treeAt wsX6_treeAt) := goodIn_app (goodIn_of _ (by decide +kernel)) ggX6_rests_X6_treeAt
set_option maxRecDepth 20000 in
theorem ggX6_rests_X6_yearOf : GoodIn wsX6_rests wsX6_yearOf := goodIn_r _ [34] (by decide +kernel) (by decide +kernel)
set_option maxRecDepth 20000 in
theorem gX6_rests_X6_yearOf : GoodIn wsX6_rests (va_wsS RX6 106 yX6_yearOf wsX6_yearOf) := goodIn_app (goodIn_of _ (by decide +kernel)) ggX6_rests_X6_yearOf
set_option maxRecDepth 20000 in
theorem ggX6_rests_X4_restsIn : GoodIn wsX6_rests wsX4_restsIn := goodIn_r _ [39, 40, 56, 57, 58, 59, 60, 61, 62] (by decide +kernel) (by decide +kernel)
set_option maxRecDepth 20000 in
theorem gX6_rests_X4_restsIn : GoodIn wsX6_rests (wsV RX6 109 RX4 yX4_restsIn wsX4_restsIn) := goodIn_app (goodIn_of _ (by decide +kernel)) ggX6_rests_X4_restsIn
theorem dX6_rests_0 : decode cX6_rests 0 = .ok (.aload_n 0, 1) := by decide +kernel
theorem dX6_rests_1 : decode cX6_rests 1 = .ok (.iload_n 1, 1) := by decide +kernel
theorem dX6_rests_2 : decode cX6_rests 2 = .ok (.invokevirtual 98, 3) := by decide +kernel
theorem dX6_rests_5 : decode cX6_rests 5 = .ok (.astore_n 2, 1) := by decide +kernel
theorem dX6_rests_6 : decode cX6_rests 6 = .ok (.aload_n 2, 1) := by decide +kernel
theorem dX6_rests_7 : decode cX6_rests 7 = .ok (.ifnull 21, 3) := by decide +kernel
theorem dX6_rests_10 : decode cX6_rests 10 = .ok (.aload_n 2, 1) := by decide +kernel
theorem dX6_rests_11 : decode cX6_rests 11 = .ok (.aload_n 0, 1) := by decide +kernel
theorem dX6_rests_12 : decode cX6_rests 12 = .ok (.getfield 46, 3) := by decide +kernel
theorem dX6_rests_15 : decode cX6_rests 15 = .ok (.invokestatic 106, 3) := by decide +kernel
theorem dX6_rests_18 : decode cX6_rests 18 = .ok (.invokevirtual 109, 3) := by decide +kernel
theorem dX6_rests_21 : decode cX6_rests 21 = .ok (.ifCond .eq 7, 3) := by decide +kernel
theorem dX6_rests_24 : decode cX6_rests 24 = .ok (.iconst 1, 1) := by decide +kernel
theorem dX6_rests_25 : decode cX6_rests 25 = .ok (.goto 4, 3) := by decide +kernel
theorem dX6_rests_28 : decode cX6_rests 28 = .ok (.iconst 0, 1) := by decide +kernel
theorem dX6_rests_29 : decode cX6_rests 29 = .ok (.ireturn, 1) := by decide +kernel
set_option maxRecDepth 20000 in
theorem ggX6_go_X6_endDay : GoodIn wsX6_go wsX6_endDay := goodIn_r _ [10, 11, 12, 13, 14, 15, 1, 16, 17, 18, 19, 20, 21, 22, 23, 24, 25, 26, 27, 28, 29, 30, 31, 32, 33, 34, 35, 36, 37, 38, 39, 40, 41, 42, 43, 44, 45, 46, 47, 48, 49, 50, 51, 52, 53, 54, 55, 56, 57, 58, 59, 60, 61, 3, 4, 5, 62, 63, 64, 65, 9, 66, 67, 68, 69, 70, 71, 72, 73, 74, 75, 76, 77, 78, 79, 80, 81, 82, 83, 84, 85, 86, 87, 88, 89, 90, 91, 92, 93, 94, 95, 96, 97, 98, 99, 100, 101, 102, 103, 104, 105, 106, 107] (by decide +kernel) (by decide +kernel)
set_option maxRecDepth 20000 in
theorem gX6_go_X6_endDay : GoodIn wsX6_go (wsV RX6 137 RX6 yX6_endDay wsX6_endDay) := goodIn_app (goodIn_of _ (by decide +kernel)) ggX6_go_X6_endDay
theorem dX6_go_0 : decode cX6_go 0 = .ok (.iload_n 1, 1) := by decide +kernel
theorem dX6_go_1 : decode cX6_go 1 = .ok (.ifCond .lt 10, 3) := by decide +kernel
theorem dX6_go_4 : decode cX6_go 4 = .ok (.iload_n 1, 1) := by decide +kernel
theorem dX6_go_5 : decode cX6_go 5 = .ok (.sipush 400, 3) := by decide +kernel
theorem dX6_go_8 : decode cX6_go 8 = .ok (.if_icmp .le 5, 3) := by decide +kernel
theorem dX6_go_11 : decode cX6_go 11 = .ok (.iconst (-1), 1) := by decide +kernel
theorem dX6_go_12 : decode cX6_go 12 = .ok (.ireturn, 1) := by decide +kernel
theorem dX6_go_13 : decode cX6_go 13 = .ok (.aload_n 0, 1) := by decide +kernel
theorem dX6_go_14 : decode cX6_go 14 = .ok (.getfield 46, 3) := by decide +kernel
theorem dX6_go_17 : decode cX6_go 17 = .ok (.iload_n 1, 1) := by decide +kernel
theorem dX6_go_18 : decode cX6_go 18 = .ok (.iadd, 1) := by decide +kernel
theorem dX6_go_19 : decode cX6_go 19 = .ok (.sipush 3650, 3) := by decide +kernel
theorem dX6_go_22 : decode cX6_go 22 = .ok (.invokestatic 131, 3) := by decide +kernel
theorem dX6_go_25 : decode cX6_go 25 = .ok (.istore_n 2, 1) := by decide +kernel
theorem dX6_go_26 : decode cX6_go 26 = .ok (.aload_n 0, 1) := by decide +kernel
theorem dX6_go_27 : decode cX6_go 27 = .ok (.getfield 46, 3) := by decide +kernel
theorem dX6_go_30 : decode cX6_go 30 = .ok (.iload_n 2, 1) := by decide +kernel
theorem dX6_go_31 : decode cX6_go 31 = .ok (.if_icmp .ge 20, 3) := by decide +kernel
theorem dX6_go_34 : decode cX6_go 34 = .ok (.aload_n 0, 1) := by decide +kernel
theorem dX6_go_35 : decode cX6_go 35 = .ok (.invokevirtual 137, 3) := by decide +kernel
theorem dX6_go_38 : decode cX6_go 38 = .ok (.aload_n 0, 1) := by decide +kernel
theorem dX6_go_39 : decode cX6_go 39 = .ok (.dup, 1) := by decide +kernel
theorem dX6_go_40 : decode cX6_go 40 = .ok (.getfield 46, 3) := by decide +kernel
theorem dX6_go_43 : decode cX6_go 43 = .ok (.iconst 1, 1) := by decide +kernel
theorem dX6_go_44 : decode cX6_go 44 = .ok (.iadd, 1) := by decide +kernel
theorem dX6_go_45 : decode cX6_go 45 = .ok (.putfield 46, 3) := by decide +kernel
theorem dX6_go_48 : decode cX6_go 48 = .ok (.goto (-22), 3) := by decide +kernel
theorem dX6_go_51 : decode cX6_go 51 = .ok (.aload_n 0, 1) := by decide +kernel
theorem dX6_go_52 : decode cX6_go 52 = .ok (.getfield 46, 3) := by decide +kernel
theorem dX6_go_55 : decode cX6_go 55 = .ok (.ireturn, 1) := by decide +kernel
set_option maxRecDepth 20000 in
theorem ggX6_face_X6_treeAt : GoodIn wsX6_face wsX6_treeAt := goodIn_r _ [5, 6, 7, 8, 9, 10, 11, 12, 13, 14, 15, 16, 17, 18, 19, 20, 21, 22, 23, 24, 25, 26, 27, 28, 29, 30, 51, 52, 53, 54, 55, 56, 57, 58, 59, 60, 61, 62, 63, 64, 65] (by decide +kernel) (by decide +kernel)
set_option maxRecDepth 20000 in
theorem gX6_face_X6_treeAt : GoodIn wsX6_face (wsV RX6 98 RX6 yX6_treeAt wsX6_treeAt) := goodIn_app (goodIn_of _ (by decide +kernel)) ggX6_face_X6_treeAt
set_option maxRecDepth 20000 in
theorem ggX6_face_X4_faceAt : GoodIn wsX6_face wsX4_faceAt := goodIn_r _ [35, 36, 37, 38, 9, 10, 11, 12, 13, 39, 15, 16, 17, 18, 19, 20, 21, 22, 23, 24, 25, 26, 27, 28, 29, 30, 66, 67, 68, 69, 70, 71, 72, 63, 64, 65] (by decide +kernel) (by decide +kernel)
set_option maxRecDepth 20000 in
theorem gX6_face_X4_faceAt : GoodIn wsX6_face (wsV RX6 112 RX4 yX4_faceAt wsX4_faceAt) := goodIn_app (goodIn_of _ (by decide +kernel)) ggX6_face_X4_faceAt
set_option maxRecDepth 20000 in
theorem ggX6_face_X1_tell : GoodIn wsX6_face wsX1_tell := goodIn_r _ [44, 45, 46, 47, 48, 49, 50, 73, 74, 75, 76, 77, 78] (by decide +kernel) (by decide +kernel)
set_option maxRecDepth 20000 in
theorem gX6_face_X1_tell : GoodIn wsX6_face (wsV RX6 140 RX1 yX1_tell wsX1_tell) := goodIn_app (goodIn_of _ (by decide +kernel)) ggX6_face_X1_tell
theorem dX6_face_0 : decode cX6_face 0 = .ok (.aload_n 0, 1) := by decide +kernel
theorem dX6_face_1 : decode cX6_face 1 = .ok (.iload_n 1, 1) := by decide +kernel
theorem dX6_face_2 : decode cX6_face 2 = .ok (.invokevirtual 98, 3) := by decide +kernel
theorem dX6_face_5 : decode cX6_face 5 = .ok (.astore 4, 2) := by decide +kernel
theorem dX6_face_7 : decode cX6_face 7 = .ok (.aload 4, 2) := by decide +kernel
theorem dX6_face_9 : decode cX6_face 9 = .ok (.ifnonnull 7, 3) := by decide +kernel
theorem dX6_face_12 : decode cX6_face 12 = .ok (.aconst_null, 1) := by decide +kernel
theorem dX6_face_13 : decode cX6_face 13 = .ok (.goto 9, 3) := by decide +kernel
theorem dX6_face_16 : decode cX6_face 16 = .ok (.aload 4, 2) := by decide +kernel
theorem dX6_face_18 : decode cX6_face 18 = .ok (.iload_n 2, 1) := by decide +kernel
theorem dX6_face_19 : decode cX6_face 19 = .ok (.invokevirtual 112, 3) := by decide +kernel
theorem dX6_face_22 : decode cX6_face 22 = .ok (.astore 5, 2) := by decide +kernel
theorem dX6_face_24 : decode cX6_face 24 = .ok (.aload 5, 2) := by decide +kernel
theorem dX6_face_26 : decode cX6_face 26 = .ok (.ifnonnull 7, 3) := by decide +kernel
theorem dX6_face_29 : decode cX6_face 29 = .ok (.iconst (-1), 1) := by decide +kernel
theorem dX6_face_30 : decode cX6_face 30 = .ok (.goto 9, 3) := by decide +kernel
theorem dX6_face_33 : decode cX6_face 33 = .ok (.aload 5, 2) := by decide +kernel
theorem dX6_face_35 : decode cX6_face 35 = .ok (.iload_n 3, 1) := by decide +kernel
theorem dX6_face_36 : decode cX6_face 36 = .ok (.invokevirtual 140, 3) := by decide +kernel
theorem dX6_face_39 : decode cX6_face 39 = .ok (.ireturn, 1) := by decide +kernel
set_option maxRecDepth 20000 in
theorem ggX6_empty_X6_treeAt : GoodIn wsX6_empty wsX6_treeAt := goodIn_r _ [11, 12, 13, 14, 15, 16, 17, 18, 19, 20, 21, 22, 23, 24, 25, 26, 27, 28, 29, 30, 31, 32, 33, 34, 35, 36, 161, 162, 163, 164, 165, 166, 167, 168, 169, 170, 171, 172, 186, 187, 188] (by decide +kernel) (by decide +kernel)
set_option maxRecDepth 20000 in
theorem gX6_empty_X6_treeAt : GoodIn wsX6_empty (wsV RX6 98 RX6 yX6_treeAt wsX6_treeAt) := goodIn_app (goodIn_of _ (by decide +kernel)) ggX6_empty_X6_treeAt
set_option maxRecDepth 20000 in
theorem ggX6_empty_X4_inCups : GoodIn wsX6_empty wsX4_inCups := goodIn_r _ [41, 42, 43, 44, 45, 15, 16, 17, 18, 19, 46, 21, 22, 23, 24, 25, 26, 27, 28, 29, 30, 31, 32, 33, 34, 35, 36, 173, 174, 175, 176, 177, 178, 179, 189, 190, 191, 192, 193, 194, 186, 187, 188] (by decide +kernel) (by decide +kernel)
set_option maxRecDepth 20000 in
theorem gX6_empty_X4_inCups : GoodIn wsX6_empty (wsV RX6 143 RX4 yX4_inCups wsX4_inCups) := goodIn_app (goodIn_of _ (by decide +kernel)) ggX6_empty_X4_inCups
set_option maxRecDepth 20000 in
theorem ggX6_empty_Jx4a65c_size_8abf5 : GoodIn wsX6_empty wsJx4a65c_size_8abf5 := goodIn_r _ [18, 19, 186, 187, 188] (by decide +kernel) (by decide +kernel)
set_option maxRecDepth 20000 in
theorem gX6_empty_Jx4a65c_size_8abf5_f76Jx4a65c : GoodIn wsX6_empty (va_wsF RX6 76 RJx4a65c ⟨"java/util/List", "size", "()I"⟩ yJx4a65c_size_8abf5 wsJx4a65c_size_8abf5) := goodIn_app (goodIn_of _ (by decide +kernel)) ggX6_empty_Jx4a65c_size_8abf5
set_option maxRecDepth 20000 in
theorem ggX6_empty_X6_newBarrelsFor : GoodIn wsX6_empty wsX6_newBarrelsFor := goodIn_r _ [49, 50, 51, 52, 53, 54, 55, 56, 57, 58, 59, 60, 61, 62, 63, 64, 65, 66, 67, 68, 69, 70, 71, 180, 181, 182, 183, 184, 185, 195, 196, 197, 198, 199, 200] (by decide +kernel) (by decide +kernel)
set_option maxRecDepth 20000 in
theorem gX6_empty_X6_newBarrelsFor : GoodIn wsX6_empty (va_wsS RX6 150 yX6_newBarrelsFor wsX6_newBarrelsFor) := goodIn_app (goodIn_of _ (by decide +kernel)) ggX6_empty_X6_newBarrelsFor
set_option maxRecDepth 20000 in
theorem ggX6_empty_Jx4a65c_get_915e3 : GoodIn wsX6_empty wsJx4a65c_get_915e3 := goodIn_r _ [23, 19, 24, 25, 26, 27, 28, 29, 30, 31, 32, 33, 34, 17, 35, 36, 186, 187, 188] (by decide +kernel) (by decide +kernel)
set_option maxRecDepth 20000 in
theorem gX6_empty_Jx4a65c_get_915e3_f157Jx4a65c : GoodIn wsX6_empty (va_wsF RX6 157 RJx4a65c ⟨"java/util/List", "get", "(I)Ljava/lang/Object;"⟩ yJx4a65c_get_915e3 wsJx4a65c_get_915e3) := goodIn_app (goodIn_of _ (by decide +kernel)) ggX6_empty_Jx4a65c_get_915e3
set_option maxRecDepth 20000 in
theorem ggX6_empty_X6_pourCup : GoodIn wsX6_empty wsX6_pourCup := goodIn_r _ [75, 76, 77, 78, 79, 10, 80, 2, 81, 82, 59, 1, 83, 84, 50, 51, 52, 53, 54, 55, 56, 57, 58, 60, 61, 62, 63, 64, 65, 66, 67, 85, 86, 87, 88, 89, 90, 91, 92, 93, 94, 95, 96, 97, 17, 98, 99, 100, 36, 19, 101, 102, 103, 104, 105, 106, 107, 108, 109, 110, 111, 112, 113, 114, 115, 116, 117, 118, 119, 120, 121, 122, 123, 124, 125, 126, 127, 128, 129, 130, 131, 132, 133, 134, 135, 136, 137, 138, 139, 140, 141, 142, 143, 144, 145, 146, 147, 148, 149, 150, 151, 152, 153, 69, 70, 71, 154, 155, 156, 157, 158, 159, 160, 189, 190, 191, 192, 193, 194, 173, 174, 175, 176, 177, 178, 179, 195, 196, 197, 198, 199, 200, 161, 162, 163, 164, 165, 166, 167, 168, 169, 170, 171, 172, 180, 181, 182, 183, 184, 185, 186, 187, 188] (by decide +kernel) (by decide +kernel)
set_option maxRecDepth 20000 in
theorem gX6_empty_X6_pourCup : GoodIn wsX6_empty (wsV RX6 161 RX6 yX6_pourCup wsX6_pourCup) := goodIn_app (goodIn_of _ (by decide +kernel)) ggX6_empty_X6_pourCup
theorem dX6_empty_0 : decode cX6_empty 0 = .ok (.aload_n 0, 1) := by decide +kernel
theorem dX6_empty_1 : decode cX6_empty 1 = .ok (.iload_n 1, 1) := by decide +kernel
theorem dX6_empty_2 : decode cX6_empty 2 = .ok (.invokevirtual 98, 3) := by decide +kernel
theorem dX6_empty_5 : decode cX6_empty 5 = .ok (.astore_n 2, 1) := by decide +kernel
theorem dX6_empty_6 : decode cX6_empty 6 = .ok (.aload_n 2, 1) := by decide +kernel
theorem dX6_empty_7 : decode cX6_empty 7 = .ok (.ifnonnull 5, 3) := by decide +kernel
theorem dX6_empty_10 : decode cX6_empty 10 = .ok (.iconst (-1), 1) := by decide +kernel
theorem dX6_empty_11 : decode cX6_empty 11 = .ok (.ireturn, 1) := by decide +kernel
theorem dX6_empty_12 : decode cX6_empty 12 = .ok (.aload_n 2, 1) := by decide +kernel
theorem dX6_empty_13 : decode cX6_empty 13 = .ok (.invokevirtual 143, 3) := by decide +kernel
theorem dX6_empty_16 : decode cX6_empty 16 = .ok (.istore_n 3, 1) := by decide +kernel
theorem dX6_empty_17 : decode cX6_empty 17 = .ok (.aload_n 0, 1) := by decide +kernel
theorem dX6_empty_18 : decode cX6_empty 18 = .ok (.getfield 29, 3) := by decide +kernel
theorem dX6_empty_21 : decode cX6_empty 21 = .ok (.invokeinterface 76 1, 5) := by decide +kernel
theorem dX6_empty_26 : decode cX6_empty 26 = .ok (.aload_n 2, 1) := by decide +kernel
theorem dX6_empty_27 : decode cX6_empty 27 = .ok (.getfield 146, 3) := by decide +kernel
theorem dX6_empty_30 : decode cX6_empty 30 = .ok (.iload_n 3, 1) := by decide +kernel
theorem dX6_empty_31 : decode cX6_empty 31 = .ok (.invokestatic 150, 3) := by decide +kernel
theorem dX6_empty_34 : decode cX6_empty 34 = .ok (.iadd, 1) := by decide +kernel
theorem dX6_empty_35 : decode cX6_empty 35 = .ok (.sipush 200, 3) := by decide +kernel
theorem dX6_empty_38 : decode cX6_empty 38 = .ok (.if_icmp .le 5, 3) := by decide +kernel
theorem dX6_empty_41 : decode cX6_empty 41 = .ok (.iconst (-1), 1) := by decide +kernel
theorem dX6_empty_42 : decode cX6_empty 42 = .ok (.ireturn, 1) := by decide +kernel
theorem dX6_empty_43 : decode cX6_empty 43 = .ok (.iconst 0, 1) := by decide +kernel
theorem dX6_empty_44 : decode cX6_empty 44 = .ok (.istore 4, 2) := by decide +kernel
theorem dX6_empty_46 : decode cX6_empty 46 = .ok (.iload 4, 2) := by decide +kernel
theorem dX6_empty_48 : decode cX6_empty 48 = .ok (.aload_n 2, 1) := by decide +kernel
theorem dX6_empty_49 : decode cX6_empty 49 = .ok (.getfield 154, 3) := by decide +kernel
theorem dX6_empty_52 : decode cX6_empty 52 = .ok (.invokeinterface 76 1, 5) := by decide +kernel
theorem dX6_empty_57 : decode cX6_empty 57 = .ok (.if_icmp .ge 28, 3) := by decide +kernel
theorem dX6_empty_60 : decode cX6_empty 60 = .ok (.aload_n 0, 1) := by decide +kernel
theorem dX6_empty_61 : decode cX6_empty 61 = .ok (.aload_n 2, 1) := by decide +kernel
theorem dX6_empty_62 : decode cX6_empty 62 = .ok (.aload_n 2, 1) := by decide +kernel
theorem dX6_empty_63 : decode cX6_empty 63 = .ok (.getfield 154, 3) := by decide +kernel
theorem dX6_empty_66 : decode cX6_empty 66 = .ok (.iload 4, 2) := by decide +kernel
theorem dX6_empty_68 : decode cX6_empty 68 = .ok (.invokeinterface 157 2, 5) := by decide +kernel
theorem dX6_empty_73 : decode cX6_empty 73 = .ok (.checkcast 117, 3) := by decide +kernel
theorem dX6_empty_76 : decode cX6_empty 76 = .ok (.invokevirtual 161, 3) := by decide +kernel
theorem dX6_empty_79 : decode cX6_empty 79 = .ok (.iinc 4 1, 3) := by decide +kernel
theorem dX6_empty_82 : decode cX6_empty 82 = .ok (.goto (-36), 3) := by decide +kernel
theorem dX6_empty_85 : decode cX6_empty 85 = .ok (.aload_n 2, 1) := by decide +kernel
theorem dX6_empty_86 : decode cX6_empty 86 = .ok (.getfield 146, 3) := by decide +kernel
theorem dX6_empty_89 : decode cX6_empty 89 = .ok (.dup, 1) := by decide +kernel
theorem dX6_empty_90 : decode cX6_empty 90 = .ok (.getfield 165, 3) := by decide +kernel
theorem dX6_empty_93 : decode cX6_empty 93 = .ok (.iload_n 3, 1) := by decide +kernel
theorem dX6_empty_94 : decode cX6_empty 94 = .ok (.iadd, 1) := by decide +kernel
theorem dX6_empty_95 : decode cX6_empty 95 = .ok (.putfield 165, 3) := by decide +kernel
theorem dX6_empty_98 : decode cX6_empty 98 = .ok (.aload_n 0, 1) := by decide +kernel
theorem dX6_empty_99 : decode cX6_empty 99 = .ok (.dup, 1) := by decide +kernel
theorem dX6_empty_100 : decode cX6_empty 100 = .ok (.getfield 50, 3) := by decide +kernel
theorem dX6_empty_103 : decode cX6_empty 103 = .ok (.iload_n 3, 1) := by decide +kernel
theorem dX6_empty_104 : decode cX6_empty 104 = .ok (.iadd, 1) := by decide +kernel
theorem dX6_empty_105 : decode cX6_empty 105 = .ok (.putfield 50, 3) := by decide +kernel
theorem dX6_empty_108 : decode cX6_empty 108 = .ok (.iload_n 3, 1) := by decide +kernel
theorem dX6_empty_109 : decode cX6_empty 109 = .ok (.ireturn, 1) := by decide +kernel
set_option maxRecDepth 20000 in
theorem ggX6_barrel_X6_barrelAt : GoodIn wsX6_barrel wsX6_barrelAt := goodIn_r _ [5, 6, 7, 8, 9, 10, 11, 12, 13, 14, 15, 16, 17, 18, 19, 20, 21, 22, 23, 24, 25, 26, 27, 28, 29, 30, 54, 55, 56, 57, 58, 59, 60, 61, 62, 63, 64, 65, 66, 67, 68] (by decide +kernel) (by decide +kernel)
set_option maxRecDepth 20000 in
theorem gX6_barrel_X6_barrelAt : GoodIn wsX6_barrel (wsV RX6 166 RX6 yX6_barrelAt wsX6_barrelAt) := goodIn_app (goodIn_of _ (by decide +kernel)) ggX6_barrel_X6_barrelAt
set_option maxRecDepth 20000 in
theorem ggX6_barrel_X0_tell : GoodIn wsX6_barrel wsX0_tell := goodIn_r _ [35, 36, 37, 38, 39, 40, 41, 42, 43, 44, 34, 45, 46, 47, 48, 49, 50, 51, 52, 53, 69, 70, 71, 72, 73, 74, 75, 76, 77, 78, 79, 80] (by decide +kernel) (by decide +kernel)
set_option maxRecDepth 20000 in
theorem gX6_barrel_X0_tell : GoodIn wsX6_barrel (wsV RX6 170 RX0 yX0_tell wsX0_tell) := goodIn_app (goodIn_of _ (by decide +kernel)) ggX6_barrel_X0_tell
theorem dX6_barrel_0 : decode cX6_barrel 0 = .ok (.aload_n 0, 1) := by decide +kernel
theorem dX6_barrel_1 : decode cX6_barrel 1 = .ok (.iload_n 1, 1) := by decide +kernel
theorem dX6_barrel_2 : decode cX6_barrel 2 = .ok (.invokevirtual 166, 3) := by decide +kernel
theorem dX6_barrel_5 : decode cX6_barrel 5 = .ok (.astore_n 3, 1) := by decide +kernel
theorem dX6_barrel_6 : decode cX6_barrel 6 = .ok (.aload_n 3, 1) := by decide +kernel
theorem dX6_barrel_7 : decode cX6_barrel 7 = .ok (.ifnonnull 7, 3) := by decide +kernel
theorem dX6_barrel_10 : decode cX6_barrel 10 = .ok (.iconst (-1), 1) := by decide +kernel
theorem dX6_barrel_11 : decode cX6_barrel 11 = .ok (.goto 8, 3) := by decide +kernel
theorem dX6_barrel_14 : decode cX6_barrel 14 = .ok (.aload_n 3, 1) := by decide +kernel
theorem dX6_barrel_15 : decode cX6_barrel 15 = .ok (.iload_n 2, 1) := by decide +kernel
theorem dX6_barrel_16 : decode cX6_barrel 16 = .ok (.invokevirtual 170, 3) := by decide +kernel
theorem dX6_barrel_19 : decode cX6_barrel 19 = .ok (.ireturn, 1) := by decide +kernel
set_option maxRecDepth 20000 in
theorem ggX6_from_X6_barrelAt : GoodIn wsX6_from wsX6_barrelAt := goodIn_r _ [7, 8, 9, 10, 11, 12, 13, 14, 15, 16, 17, 18, 19, 20, 21, 22, 23, 24, 25, 26, 27, 28, 29, 30, 31, 32, 52, 53, 54, 55, 56, 57, 58, 59, 60, 61, 62, 63, 64, 65, 66] (by decide +kernel) (by decide +kernel)
set_option maxRecDepth 20000 in
theorem gX6_from_X6_barrelAt : GoodIn wsX6_from (wsV RX6 166 RX6 yX6_barrelAt wsX6_barrelAt) := goodIn_app (goodIn_of _ (by decide +kernel)) ggX6_from_X6_barrelAt
set_option maxRecDepth 20000 in
theorem ggX6_from_X6_treeAt : GoodIn wsX6_from wsX6_treeAt := goodIn_r _ [36, 37, 38, 10, 11, 12, 13, 14, 15, 16, 17, 18, 19, 20, 21, 22, 23, 24, 25, 26, 27, 28, 29, 30, 31, 32, 52, 53, 54, 55, 56, 57, 58, 59, 60, 61, 62, 63, 64, 65, 66] (by decide +kernel) (by decide +kernel)
set_option maxRecDepth 20000 in
theorem gX6_from_X6_treeAt : GoodIn wsX6_from (wsV RX6 98 RX6 yX6_treeAt wsX6_treeAt) := goodIn_app (goodIn_of _ (by decide +kernel)) ggX6_from_X6_treeAt
theorem dX6_from_0 : decode cX6_from 0 = .ok (.aload_n 0, 1) := by decide +kernel
theorem dX6_from_1 : decode cX6_from 1 = .ok (.iload_n 1, 1) := by decide +kernel
theorem dX6_from_2 : decode cX6_from 2 = .ok (.invokevirtual 166, 3) := by decide +kernel
theorem dX6_from_5 : decode cX6_from 5 = .ok (.astore_n 3, 1) := by decide +kernel
theorem dX6_from_6 : decode cX6_from 6 = .ok (.aload_n 0, 1) := by decide +kernel
theorem dX6_from_7 : decode cX6_from 7 = .ok (.iload_n 2, 1) := by decide +kernel
theorem dX6_from_8 : decode cX6_from 8 = .ok (.invokevirtual 98, 3) := by decide +kernel
theorem dX6_from_11 : decode cX6_from 11 = .ok (.astore 4, 2) := by decide +kernel
theorem dX6_from_13 : decode cX6_from 13 = .ok (.aload_n 3, 1) := by decide +kernel
theorem dX6_from_14 : decode cX6_from 14 = .ok (.ifnull 8, 3) := by decide +kernel
theorem dX6_from_17 : decode cX6_from 17 = .ok (.aload 4, 2) := by decide +kernel
theorem dX6_from_19 : decode cX6_from 19 = .ok (.ifnonnull 7, 3) := by decide +kernel
theorem dX6_from_22 : decode cX6_from 22 = .ok (.iconst (-1), 1) := by decide +kernel
theorem dX6_from_23 : decode cX6_from 23 = .ok (.goto 13, 3) := by decide +kernel
theorem dX6_from_26 : decode cX6_from 26 = .ok (.aload_n 3, 1) := by decide +kernel
theorem dX6_from_27 : decode cX6_from 27 = .ok (.getfield 173, 3) := by decide +kernel
theorem dX6_from_30 : decode cX6_from 30 = .ok (.aload 4, 2) := by decide +kernel
theorem dX6_from_32 : decode cX6_from 32 = .ok (.getfield 177, 3) := by decide +kernel
theorem dX6_from_35 : decode cX6_from 35 = .ok (.iaload, 1) := by decide +kernel
theorem dX6_from_36 : decode cX6_from 36 = .ok (.ireturn, 1) := by decide +kernel
set_option maxRecDepth 20000 in
theorem ggX6_still_X6_barrelAt : GoodIn wsX6_still wsX6_barrelAt := goodIn_r _ [8, 9, 10, 11, 12, 13, 14, 15, 16, 17, 18, 19, 20, 21, 22, 23, 24, 25, 26, 27, 28, 29, 30, 31, 32, 33, 65, 66, 67, 68, 69, 70, 71, 72, 73, 74, 75, 76, 77, 78, 79] (by decide +kernel) (by decide +kernel)
set_option maxRecDepth 20000 in
theorem gX6_still_X6_barrelAt : GoodIn wsX6_still (wsV RX6 166 RX6 yX6_barrelAt wsX6_barrelAt) := goodIn_app (goodIn_of _ (by decide +kernel)) ggX6_still_X6_barrelAt
set_option maxRecDepth 20000 in
theorem ggX6_still_X0_isGone : GoodIn wsX6_still wsX0_isGone := goodIn_r _ [38, 39, 40, 59, 60, 61, 62, 63, 64] (by decide +kernel) (by decide +kernel)
set_option maxRecDepth 20000 in
theorem gX6_still_X0_isGone : GoodIn wsX6_still (wsV RX6 180 RX0 yX0_isGone wsX0_isGone) := goodIn_app (goodIn_of _ (by decide +kernel)) ggX6_still_X0_isGone
set_option maxRecDepth 20000 in
theorem ggX6_still_X0_spiritOf : GoodIn wsX6_still wsX0_spiritOf := goodIn_r _ [44, 45, 59, 60, 61, 62, 63, 64] (by decide +kernel) (by decide +kernel)
set_option maxRecDepth 20000 in
theorem gX6_still_X0_spiritOf : GoodIn wsX6_still (wsV RX6 187 RX0 yX0_spiritOf wsX0_spiritOf) := goodIn_app (goodIn_of _ (by decide +kernel)) ggX6_still_X0_spiritOf
set_option maxRecDepth 20000 in
theorem ggX6_still_X0_rosinOf : GoodIn wsX6_still wsX0_rosinOf := goodIn_r _ [49, 45, 50, 51, 52, 53, 54, 55, 56, 37, 57, 58, 59, 60, 61, 62, 63, 64] (by decide +kernel) (by decide +kernel)
set_option maxRecDepth 20000 in
theorem gX6_still_X0_rosinOf : GoodIn wsX6_still (wsV RX6 190 RX0 yX0_rosinOf wsX0_rosinOf) := goodIn_app (goodIn_of _ (by decide +kernel)) ggX6_still_X0_rosinOf
theorem dX6_still_0 : decode cX6_still 0 = .ok (.aload_n 0, 1) := by decide +kernel
theorem dX6_still_1 : decode cX6_still 1 = .ok (.iload_n 1, 1) := by decide +kernel
theorem dX6_still_2 : decode cX6_still 2 = .ok (.invokevirtual 166, 3) := by decide +kernel
theorem dX6_still_5 : decode cX6_still 5 = .ok (.astore_n 2, 1) := by decide +kernel
theorem dX6_still_6 : decode cX6_still 6 = .ok (.aload_n 2, 1) := by decide +kernel
theorem dX6_still_7 : decode cX6_still 7 = .ok (.ifnull 10, 3) := by decide +kernel
theorem dX6_still_10 : decode cX6_still 10 = .ok (.aload_n 2, 1) := by decide +kernel
theorem dX6_still_11 : decode cX6_still 11 = .ok (.invokevirtual 180, 3) := by decide +kernel
theorem dX6_still_14 : decode cX6_still 14 = .ok (.ifCond .eq 5, 3) := by decide +kernel
theorem dX6_still_17 : decode cX6_still 17 = .ok (.iconst (-1), 1) := by decide +kernel
theorem dX6_still_18 : decode cX6_still 18 = .ok (.ireturn, 1) := by decide +kernel
theorem dX6_still_19 : decode cX6_still 19 = .ok (.aload_n 2, 1) := by decide +kernel
theorem dX6_still_20 : decode cX6_still 20 = .ok (.iconst 1, 1) := by decide +kernel
theorem dX6_still_21 : decode cX6_still 21 = .ok (.putfield 184, 3) := by decide +kernel
theorem dX6_still_24 : decode cX6_still 24 = .ok (.aload_n 0, 1) := by decide +kernel
theorem dX6_still_25 : decode cX6_still 25 = .ok (.dup, 1) := by decide +kernel
theorem dX6_still_26 : decode cX6_still 26 = .ok (.getfield 56, 3) := by decide +kernel
theorem dX6_still_29 : decode cX6_still 29 = .ok (.aload_n 2, 1) := by decide +kernel
theorem dX6_still_30 : decode cX6_still 30 = .ok (.invokevirtual 187, 3) := by decide +kernel
theorem dX6_still_33 : decode cX6_still 33 = .ok (.iadd, 1) := by decide +kernel
theorem dX6_still_34 : decode cX6_still 34 = .ok (.putfield 56, 3) := by decide +kernel
theorem dX6_still_37 : decode cX6_still 37 = .ok (.aload_n 0, 1) := by decide +kernel
theorem dX6_still_38 : decode cX6_still 38 = .ok (.dup, 1) := by decide +kernel
theorem dX6_still_39 : decode cX6_still 39 = .ok (.getfield 59, 3) := by decide +kernel
theorem dX6_still_42 : decode cX6_still 42 = .ok (.aload_n 2, 1) := by decide +kernel
theorem dX6_still_43 : decode cX6_still 43 = .ok (.invokevirtual 190, 3) := by decide +kernel
theorem dX6_still_46 : decode cX6_still 46 = .ok (.iadd, 1) := by decide +kernel
theorem dX6_still_47 : decode cX6_still 47 = .ok (.putfield 59, 3) := by decide +kernel
theorem dX6_still_50 : decode cX6_still 50 = .ok (.aload_n 2, 1) := by decide +kernel
theorem dX6_still_51 : decode cX6_still 51 = .ok (.invokevirtual 187, 3) := by decide +kernel
theorem dX6_still_54 : decode cX6_still 54 = .ok (.sipush 10000, 3) := by decide +kernel
theorem dX6_still_57 : decode cX6_still 57 = .ok (.imul, 1) := by decide +kernel
theorem dX6_still_58 : decode cX6_still 58 = .ok (.aload_n 2, 1) := by decide +kernel
theorem dX6_still_59 : decode cX6_still 59 = .ok (.invokevirtual 190, 3) := by decide +kernel
theorem dX6_still_62 : decode cX6_still 62 = .ok (.iadd, 1) := by decide +kernel
theorem dX6_still_63 : decode cX6_still 63 = .ok (.ireturn, 1) := by decide +kernel
set_option maxRecDepth 20000 in
theorem ggX6_let_X6_woodAt : GoodIn wsX6_let wsX6_woodAt := goodIn_r _ [5, 6, 16, 17, 18, 19, 20, 21, 22, 23, 24, 25, 26, 27] (by decide +kernel) (by decide +kernel)
set_option maxRecDepth 20000 in
theorem gX6_let_X6_woodAt : GoodIn wsX6_let (wsV RX6 65 RX6 yX6_woodAt wsX6_woodAt) := goodIn_app (goodIn_of _ (by decide +kernel)) ggX6_let_X6_woodAt
set_option maxRecDepth 20000 in
theorem ggX6_let_X5_letFor : GoodIn wsX6_let wsX5_letFor := goodIn_r _ [11, 12, 13, 14, 15, 28, 29, 30, 31, 32, 33] (by decide +kernel) (by decide +kernel)
set_option maxRecDepth 20000 in
theorem gX6_let_X5_letFor : GoodIn wsX6_let (wsV RX6 193 RX5 yX5_letFor wsX5_letFor) := goodIn_app (goodIn_of _ (by decide +kernel)) ggX6_let_X5_letFor
theorem dX6_let_0 : decode cX6_let 0 = .ok (.aload_n 0, 1) := by decide +kernel
theorem dX6_let_1 : decode cX6_let 1 = .ok (.iload_n 1, 1) := by decide +kernel
theorem dX6_let_2 : decode cX6_let 2 = .ok (.invokevirtual 65, 3) := by decide +kernel
theorem dX6_let_5 : decode cX6_let 5 = .ok (.astore_n 3, 1) := by decide +kernel
theorem dX6_let_6 : decode cX6_let 6 = .ok (.aload_n 3, 1) := by decide +kernel
theorem dX6_let_7 : decode cX6_let 7 = .ok (.ifnull 13, 3) := by decide +kernel
theorem dX6_let_10 : decode cX6_let 10 = .ok (.iload_n 2, 1) := by decide +kernel
theorem dX6_let_11 : decode cX6_let 11 = .ok (.ifCond .lt 9, 3) := by decide +kernel
theorem dX6_let_14 : decode cX6_let 14 = .ok (.iload_n 2, 1) := by decide +kernel
theorem dX6_let_15 : decode cX6_let 15 = .ok (.bipush 100, 2) := by decide +kernel
theorem dX6_let_17 : decode cX6_let 17 = .ok (.if_icmp .le 5, 3) := by decide +kernel
theorem dX6_let_20 : decode cX6_let 20 = .ok (.iconst 0, 1) := by decide +kernel
theorem dX6_let_21 : decode cX6_let 21 = .ok (.ireturn, 1) := by decide +kernel
theorem dX6_let_22 : decode cX6_let 22 = .ok (.aload_n 3, 1) := by decide +kernel
theorem dX6_let_23 : decode cX6_let 23 = .ok (.iload_n 2, 1) := by decide +kernel
theorem dX6_let_24 : decode cX6_let 24 = .ok (.invokevirtual 193, 3) := by decide +kernel
theorem dX6_let_27 : decode cX6_let 27 = .ok (.iconst 1, 1) := by decide +kernel
theorem dX6_let_28 : decode cX6_let 28 = .ok (.ireturn, 1) := by decide +kernel
set_option maxRecDepth 20000 in
theorem ggX6_due_X6_woodAt : GoodIn wsX6_due wsX6_woodAt := goodIn_r _ [5, 6, 16, 17, 18, 19, 20, 21, 22, 23, 24, 25, 26, 27] (by decide +kernel) (by decide +kernel)
set_option maxRecDepth 20000 in
theorem gX6_due_X6_woodAt : GoodIn wsX6_due (wsV RX6 65 RX6 yX6_woodAt wsX6_woodAt) := goodIn_app (goodIn_of _ (by decide +kernel)) ggX6_due_X6_woodAt
set_option maxRecDepth 20000 in
theorem ggX6_due_X5_stillDue : GoodIn wsX6_due wsX5_stillDue := goodIn_r _ [11, 12, 13, 14, 15, 28, 29, 30, 31, 32, 33] (by decide +kernel) (by decide +kernel)
set_option maxRecDepth 20000 in
theorem gX6_due_X5_stillDue : GoodIn wsX6_due (wsV RX6 196 RX5 yX5_stillDue wsX5_stillDue) := goodIn_app (goodIn_of _ (by decide +kernel)) ggX6_due_X5_stillDue
theorem dX6_due_0 : decode cX6_due 0 = .ok (.aload_n 0, 1) := by decide +kernel
theorem dX6_due_1 : decode cX6_due 1 = .ok (.iload_n 1, 1) := by decide +kernel
theorem dX6_due_2 : decode cX6_due 2 = .ok (.invokevirtual 65, 3) := by decide +kernel
theorem dX6_due_5 : decode cX6_due 5 = .ok (.astore_n 2, 1) := by decide +kernel
theorem dX6_due_6 : decode cX6_due 6 = .ok (.aload_n 2, 1) := by decide +kernel
theorem dX6_due_7 : decode cX6_due 7 = .ok (.ifnonnull 7, 3) := by decide +kernel
theorem dX6_due_10 : decode cX6_due 10 = .ok (.iconst 0, 1) := by decide +kernel
theorem dX6_due_11 : decode cX6_due 11 = .ok (.goto 7, 3) := by decide +kernel
theorem dX6_due_14 : decode cX6_due 14 = .ok (.aload_n 2, 1) := by decide +kernel
theorem dX6_due_15 : decode cX6_due 15 = .ok (.invokevirtual 196, 3) := by decide +kernel
theorem dX6_due_18 : decode cX6_due 18 = .ok (.ireturn, 1) := by decide +kernel
set_option maxRecDepth 20000 in
theorem ggX6_pay_X6_barrelAt : GoodIn wsX6_pay wsX6_barrelAt := goodIn_r _ [11, 12, 13, 14, 15, 16, 17, 18, 19, 20, 21, 22, 23, 24, 25, 26, 27, 28, 29, 30, 31, 32, 33, 34, 35, 36, 65, 66, 67, 68, 69, 70, 71, 72, 73, 74, 75, 76, 77, 78, 79] (by decide +kernel) (by decide +kernel)
set_option maxRecDepth 20000 in
theorem gX6_pay_X6_barrelAt : GoodIn wsX6_pay (wsV RX6 166 RX6 yX6_barrelAt wsX6_barrelAt) := goodIn_app (goodIn_of _ (by decide +kernel)) ggX6_pay_X6_barrelAt
set_option maxRecDepth 20000 in
theorem ggX6_pay_X0_isGone : GoodIn wsX6_pay wsX0_isGone := goodIn_r _ [41, 42, 43, 53, 54, 55, 56, 57, 58] (by decide +kernel) (by decide +kernel)
set_option maxRecDepth 20000 in
theorem gX6_pay_X0_isGone : GoodIn wsX6_pay (wsV RX6 180 RX0 yX0_isGone wsX0_isGone) := goodIn_app (goodIn_of _ (by decide +kernel)) ggX6_pay_X0_isGone
set_option maxRecDepth 20000 in
theorem ggX6_pay_X5_stillDue : GoodIn wsX6_pay wsX5_stillDue := goodIn_r _ [48, 49, 50, 51, 52, 59, 60, 61, 62, 63, 64] (by decide +kernel) (by decide +kernel)
set_option maxRecDepth 20000 in
theorem gX6_pay_X5_stillDue : GoodIn wsX6_pay (wsV RX6 196 RX5 yX5_stillDue wsX5_stillDue) := goodIn_app (goodIn_of _ (by decide +kernel)) ggX6_pay_X5_stillDue
theorem dX6_pay_0 : decode cX6_pay 0 = .ok (.aload_n 0, 1) := by decide +kernel
theorem dX6_pay_1 : decode cX6_pay 1 = .ok (.iload_n 1, 1) := by decide +kernel
theorem dX6_pay_2 : decode cX6_pay 2 = .ok (.invokevirtual 166, 3) := by decide +kernel
theorem dX6_pay_5 : decode cX6_pay 5 = .ok (.astore_n 2, 1) := by decide +kernel
theorem dX6_pay_6 : decode cX6_pay 6 = .ok (.aload_n 2, 1) := by decide +kernel
theorem dX6_pay_7 : decode cX6_pay 7 = .ok (.ifnull 20, 3) := by decide +kernel
theorem dX6_pay_10 : decode cX6_pay 10 = .ok (.aload_n 2, 1) := by decide +kernel
theorem dX6_pay_11 : decode cX6_pay 11 = .ok (.invokevirtual 180, 3) := by decide +kernel
theorem dX6_pay_14 : decode cX6_pay 14 = .ok (.ifCond .ne 13, 3) := by decide +kernel
theorem dX6_pay_17 : decode cX6_pay 17 = .ok (.aload_n 2, 1) := by decide +kernel
theorem dX6_pay_18 : decode cX6_pay 18 = .ok (.getfield 199, 3) := by decide +kernel
theorem dX6_pay_21 : decode cX6_pay 21 = .ok (.getfield 200, 3) := by decide +kernel
theorem dX6_pay_24 : decode cX6_pay 24 = .ok (.ifCond .ne 6, 3) := by decide +kernel
theorem dX6_pay_27 : decode cX6_pay 27 = .ok (.ldc 203, 2) := by decide +kernel
theorem dX6_pay_29 : decode cX6_pay 29 = .ok (.ireturn, 1) := by decide +kernel
theorem dX6_pay_30 : decode cX6_pay 30 = .ok (.aload_n 2, 1) := by decide +kernel
theorem dX6_pay_31 : decode cX6_pay 31 = .ok (.iconst 1, 1) := by decide +kernel
theorem dX6_pay_32 : decode cX6_pay 32 = .ok (.putfield 204, 3) := by decide +kernel
theorem dX6_pay_35 : decode cX6_pay 35 = .ok (.aload_n 2, 1) := by decide +kernel
theorem dX6_pay_36 : decode cX6_pay 36 = .ok (.getfield 199, 3) := by decide +kernel
theorem dX6_pay_39 : decode cX6_pay 39 = .ok (.dup, 1) := by decide +kernel
theorem dX6_pay_40 : decode cX6_pay 40 = .ok (.getfield 207, 3) := by decide +kernel
theorem dX6_pay_43 : decode cX6_pay 43 = .ok (.aload_n 2, 1) := by decide +kernel
theorem dX6_pay_44 : decode cX6_pay 44 = .ok (.getfield 210, 3) := by decide +kernel
theorem dX6_pay_47 : decode cX6_pay 47 = .ok (.iadd, 1) := by decide +kernel
theorem dX6_pay_48 : decode cX6_pay 48 = .ok (.putfield 207, 3) := by decide +kernel
theorem dX6_pay_51 : decode cX6_pay 51 = .ok (.aload_n 2, 1) := by decide +kernel
theorem dX6_pay_52 : decode cX6_pay 52 = .ok (.getfield 199, 3) := by decide +kernel
theorem dX6_pay_55 : decode cX6_pay 55 = .ok (.invokevirtual 196, 3) := by decide +kernel
theorem dX6_pay_58 : decode cX6_pay 58 = .ok (.ireturn, 1) := by decide +kernel
set_option maxRecDepth 20000 in
theorem ggX6_burn_X6_woodAt : GoodIn wsX6_burn wsX6_woodAt := goodIn_r _ [12, 13, 65, 66, 67, 68, 69, 70, 71, 72, 73, 74, 75, 76] (by decide +kernel) (by decide +kernel)
set_option maxRecDepth 20000 in
theorem gX6_burn_X6_woodAt : GoodIn wsX6_burn (wsV RX6 65 RX6 yX6_woodAt wsX6_woodAt) := goodIn_app (goodIn_of _ (by decide +kernel)) ggX6_burn_X6_woodAt
set_option maxRecDepth 20000 in
theorem ggX6_burn_Jx4a65c_size_8abf5 : GoodIn wsX6_burn wsJx4a65c_size_8abf5 := goodIn_r _ [18, 19, 84, 85, 86] (by decide +kernel) (by decide +kernel)
set_option maxRecDepth 20000 in
theorem gX6_burn_Jx4a65c_size_8abf5_f76Jx4a65c : GoodIn wsX6_burn (va_wsF RX6 76 RJx4a65c ⟨"java/util/List", "size", "()I"⟩ yJx4a65c_size_8abf5 wsJx4a65c_size_8abf5) := goodIn_app (goodIn_of _ (by decide +kernel)) ggX6_burn_Jx4a65c_size_8abf5
set_option maxRecDepth 20000 in
theorem ggX6_burn_Jx4a65c_get_915e3 : GoodIn wsX6_burn wsJx4a65c_get_915e3 := goodIn_r _ [23, 19, 24, 25, 26, 27, 28, 29, 30, 31, 32, 33, 34, 17, 35, 36, 84, 85, 86] (by decide +kernel) (by decide +kernel)
set_option maxRecDepth 20000 in
theorem gX6_burn_Jx4a65c_get_915e3_f157Jx4a65c : GoodIn wsX6_burn (va_wsF RX6 157 RJx4a65c ⟨"java/util/List", "get", "(I)Ljava/lang/Object;"⟩ yJx4a65c_get_915e3 wsJx4a65c_get_915e3) := goodIn_app (goodIn_of _ (by decide +kernel)) ggX6_burn_Jx4a65c_get_915e3
set_option maxRecDepth 20000 in
theorem ggX6_burn_X4_takeFire : GoodIn wsX6_burn wsX4_takeFire := goodIn_r _ [41, 42, 43, 44, 45, 46, 47, 40, 48, 49, 50, 15, 16, 17, 18, 19, 51, 21, 22, 23, 24, 25, 26, 27, 28, 29, 30, 31, 32, 33, 34, 35, 36, 52, 53, 54, 55, 56, 57, 58, 77, 78, 79, 80, 81, 82, 83, 87, 88, 89, 90, 91, 92, 84, 85, 86] (by decide +kernel) (by decide +kernel)
set_option maxRecDepth 20000 in
theorem gX6_burn_X4_takeFire : GoodIn wsX6_burn (wsV RX6 214 RX4 yX4_takeFire wsX4_takeFire) := goodIn_app (goodIn_of _ (by decide +kernel)) ggX6_burn_X4_takeFire
theorem dX6_burn_0 : decode cX6_burn 0 = .ok (.aload_n 0, 1) := by decide +kernel
theorem dX6_burn_1 : decode cX6_burn 1 = .ok (.iload_n 1, 1) := by decide +kernel
theorem dX6_burn_2 : decode cX6_burn 2 = .ok (.invokevirtual 65, 3) := by decide +kernel
theorem dX6_burn_5 : decode cX6_burn 5 = .ok (.astore_n 2, 1) := by decide +kernel
theorem dX6_burn_6 : decode cX6_burn 6 = .ok (.aload_n 2, 1) := by decide +kernel
theorem dX6_burn_7 : decode cX6_burn 7 = .ok (.ifnonnull 5, 3) := by decide +kernel
theorem dX6_burn_10 : decode cX6_burn 10 = .ok (.iconst (-1), 1) := by decide +kernel
theorem dX6_burn_11 : decode cX6_burn 11 = .ok (.ireturn, 1) := by decide +kernel
theorem dX6_burn_12 : decode cX6_burn 12 = .ok (.aload_n 2, 1) := by decide +kernel
theorem dX6_burn_13 : decode cX6_burn 13 = .ok (.iconst 0, 1) := by decide +kernel
theorem dX6_burn_14 : decode cX6_burn 14 = .ok (.putfield 200, 3) := by decide +kernel
theorem dX6_burn_17 : decode cX6_burn 17 = .ok (.iconst 0, 1) := by decide +kernel
theorem dX6_burn_18 : decode cX6_burn 18 = .ok (.istore_n 3, 1) := by decide +kernel
theorem dX6_burn_19 : decode cX6_burn 19 = .ok (.iconst 0, 1) := by decide +kernel
theorem dX6_burn_20 : decode cX6_burn 20 = .ok (.istore 4, 2) := by decide +kernel
theorem dX6_burn_22 : decode cX6_burn 22 = .ok (.iload 4, 2) := by decide +kernel
theorem dX6_burn_24 : decode cX6_burn 24 = .ok (.aload_n 0, 1) := by decide +kernel
theorem dX6_burn_25 : decode cX6_burn 25 = .ok (.getfield 25, 3) := by decide +kernel
theorem dX6_burn_28 : decode cX6_burn 28 = .ok (.invokeinterface 76 1, 5) := by decide +kernel
theorem dX6_burn_33 : decode cX6_burn 33 = .ok (.if_icmp .ge 62, 3) := by decide +kernel
theorem dX6_burn_36 : decode cX6_burn 36 = .ok (.aload_n 0, 1) := by decide +kernel
theorem dX6_burn_37 : decode cX6_burn 37 = .ok (.getfield 25, 3) := by decide +kernel
theorem dX6_burn_40 : decode cX6_burn 40 = .ok (.iload 4, 2) := by decide +kernel
theorem dX6_burn_42 : decode cX6_burn 42 = .ok (.invokeinterface 157 2, 5) := by decide +kernel
theorem dX6_burn_47 : decode cX6_burn 47 = .ok (.checkcast 82, 3) := by decide +kernel
theorem dX6_burn_50 : decode cX6_burn 50 = .ok (.astore 5, 2) := by decide +kernel
theorem dX6_burn_52 : decode cX6_burn 52 = .ok (.aload 5, 2) := by decide +kernel
theorem dX6_burn_54 : decode cX6_burn 54 = .ok (.getfield 146, 3) := by decide +kernel
theorem dX6_burn_57 : decode cX6_burn 57 = .ok (.getfield 213, 3) := by decide +kernel
theorem dX6_burn_60 : decode cX6_burn 60 = .ok (.iload_n 1, 1) := by decide +kernel
theorem dX6_burn_61 : decode cX6_burn 61 = .ok (.if_icmp .ne 28, 3) := by decide +kernel
theorem dX6_burn_64 : decode cX6_burn 64 = .ok (.aload 5, 2) := by decide +kernel
theorem dX6_burn_66 : decode cX6_burn 66 = .ok (.getfield 102, 3) := by decide +kernel
theorem dX6_burn_69 : decode cX6_burn 69 = .ok (.ifCond .ne 20, 3) := by decide +kernel
theorem dX6_burn_72 : decode cX6_burn 72 = .ok (.aload_n 0, 1) := by decide +kernel
theorem dX6_burn_73 : decode cX6_burn 73 = .ok (.dup, 1) := by decide +kernel
theorem dX6_burn_74 : decode cX6_burn 74 = .ok (.getfield 53, 3) := by decide +kernel
theorem dX6_burn_77 : decode cX6_burn 77 = .ok (.aload 5, 2) := by decide +kernel
theorem dX6_burn_79 : decode cX6_burn 79 = .ok (.invokevirtual 214, 3) := by decide +kernel
theorem dX6_burn_82 : decode cX6_burn 82 = .ok (.iadd, 1) := by decide +kernel
theorem dX6_burn_83 : decode cX6_burn 83 = .ok (.putfield 53, 3) := by decide +kernel
theorem dX6_burn_86 : decode cX6_burn 86 = .ok (.iinc 3 1, 3) := by decide +kernel
theorem dX6_burn_89 : decode cX6_burn 89 = .ok (.iinc 4 1, 3) := by decide +kernel
theorem dX6_burn_92 : decode cX6_burn 92 = .ok (.goto (-70), 3) := by decide +kernel
theorem dX6_burn_95 : decode cX6_burn 95 = .ok (.iload_n 3, 1) := by decide +kernel
theorem dX6_burn_96 : decode cX6_burn 96 = .ok (.ireturn, 1) := by decide +kernel
set_option maxRecDepth 20000 in
theorem ggX6_walk_X6_planWalk : GoodIn wsX6_walk wsX6_planWalk := goodIn_r _ [9, 1, 10, 11, 12, 13, 14, 15, 16, 17, 18, 8, 19, 20, 21, 22, 23, 24, 25, 26, 27, 28, 29, 30, 31, 32, 33, 34, 35, 36, 37, 38, 39, 40, 41, 42, 43, 44, 45, 46, 47, 48, 49, 50, 51, 52, 53, 54, 55, 56, 57, 58, 59, 60, 61, 62, 63, 64, 65, 66, 67, 68, 69, 70, 71, 72, 73, 74, 75, 76, 77, 78, 79, 80, 81, 82, 83, 84, 85, 86, 87, 88, 89, 90, 91, 92, 93, 94, 95, 96, 97, 98, 99, 100, 101, 102, 103, 104, 105, 106, 107, 108, 109, 110, 111, 112, 113, 114, 115, 116, 117, 118, 119, 120, 121, 122, 123, 124, 125, 126, 127, 128, 129, 130, 131, 132, 133, 134, 135, 136, 137, 138, 139, 140, 141, 142, 143, 144, 145, 146, 147, 148, 149, 150, 151, 152, 153, 154, 155, 156, 157, 158, 159, 160, 161, 162, 163, 164, 165, 166, 167, 168, 169, 170, 171, 172, 173, 174, 175, 176, 177, 178, 179, 180, 181, 182, 183, 184, 185, 186, 187, 188, 189, 190] (by decide +kernel) (by decide +kernel)
set_option maxRecDepth 20000 in
theorem gX6_walk_X6_planWalk : GoodIn wsX6_walk (wsV RX6 217 RX6 yX6_planWalk wsX6_planWalk) := goodIn_app (goodIn_of _ (by decide +kernel)) ggX6_walk_X6_planWalk
theorem dX6_walk_0 : decode cX6_walk 0 = .ok (.aload_n 0, 1) := by decide +kernel
theorem dX6_walk_1 : decode cX6_walk 1 = .ok (.iload_n 1, 1) := by decide +kernel
theorem dX6_walk_2 : decode cX6_walk 2 = .ok (.iload_n 2, 1) := by decide +kernel
theorem dX6_walk_3 : decode cX6_walk 3 = .ok (.iload_n 3, 1) := by decide +kernel
theorem dX6_walk_4 : decode cX6_walk 4 = .ok (.invokevirtual 217, 3) := by decide +kernel
theorem dX6_walk_7 : decode cX6_walk 7 = .ok (.ifCond .eq 20, 3) := by decide +kernel
theorem dX6_walk_10 : decode cX6_walk 10 = .ok (.iload 4, 2) := by decide +kernel
theorem dX6_walk_12 : decode cX6_walk 12 = .ok (.ifCond .lt 15, 3) := by decide +kernel
theorem dX6_walk_15 : decode cX6_walk 15 = .ok (.iload 4, 2) := by decide +kernel
theorem dX6_walk_17 : decode cX6_walk 17 = .ok (.aload_n 0, 1) := by decide +kernel
theorem dX6_walk_18 : decode cX6_walk 18 = .ok (.getfield 42, 3) := by decide +kernel
theorem dX6_walk_21 : decode cX6_walk 21 = .ok (.getfield 221, 3) := by decide +kernel
theorem dX6_walk_24 : decode cX6_walk 24 = .ok (.if_icmp .lt 5, 3) := by decide +kernel
theorem dX6_walk_27 : decode cX6_walk 27 = .ok (.iconst (-1), 1) := by decide +kernel
theorem dX6_walk_28 : decode cX6_walk 28 = .ok (.ireturn, 1) := by decide +kernel
theorem dX6_walk_29 : decode cX6_walk 29 = .ok (.aload_n 0, 1) := by decide +kernel
theorem dX6_walk_30 : decode cX6_walk 30 = .ok (.getfield 42, 3) := by decide +kernel
theorem dX6_walk_33 : decode cX6_walk 33 = .ok (.getfield 223, 3) := by decide +kernel
theorem dX6_walk_36 : decode cX6_walk 36 = .ok (.aload_n 0, 1) := by decide +kernel
theorem dX6_walk_37 : decode cX6_walk 37 = .ok (.getfield 42, 3) := by decide +kernel
theorem dX6_walk_40 : decode cX6_walk 40 = .ok (.getfield 226, 3) := by decide +kernel
theorem dX6_walk_43 : decode cX6_walk 43 = .ok (.iload 4, 2) := by decide +kernel
theorem dX6_walk_45 : decode cX6_walk 45 = .ok (.iaload, 1) := by decide +kernel
theorem dX6_walk_46 : decode cX6_walk 46 = .ok (.iaload, 1) := by decide +kernel
theorem dX6_walk_47 : decode cX6_walk 47 = .ok (.ireturn, 1) := by decide +kernel
set_option maxRecDepth 20000 in
theorem ggX6_walked_X6_planWalk : GoodIn wsX6_walked wsX6_planWalk := goodIn_r _ [8, 1, 9, 10, 11, 12, 13, 14, 15, 16, 17, 7, 18, 19, 20, 21, 22, 23, 24, 25, 26, 27, 28, 29, 30, 31, 32, 33, 34, 35, 36, 37, 38, 39, 40, 41, 42, 43, 44, 45, 46, 47, 48, 49, 50, 51, 52, 53, 54, 55, 56, 57, 58, 59, 60, 61, 62, 63, 64, 65, 66, 67, 68, 69, 70, 71, 72, 73, 74, 75, 76, 77, 78, 79, 80, 81, 82, 83, 84, 85, 86, 87, 88, 89, 90, 91, 92, 93, 94, 95, 96, 97, 98, 99, 100, 101, 102, 103, 104, 105, 106, 107, 108, 109, 110, 111, 112, 113, 114, 115, 116, 117, 118, 119, 120, 121, 122, 123, 124, 125, 126, 127, 128, 129, 130, 131, 132, 133, 134, 135, 136, 137, 138, 139, 140, 141, 142, 143, 144, 145, 146, 147, 148, 149, 150, 151, 152, 153, 154, 155, 156, 157, 158, 159, 160, 161, 162, 163, 164, 165, 166, 167, 168, 169, 170, 171, 172, 173, 174, 175, 176, 177, 178, 179, 180, 181, 182, 183, 184, 185, 186, 187, 188, 189] (by decide +kernel) (by decide +kernel)
set_option maxRecDepth 20000 in
theorem gX6_walked_X6_planWalk : GoodIn wsX6_walked (wsV RX6 217 RX6 yX6_planWalk wsX6_planWalk) := goodIn_app (goodIn_of _ (by decide +kernel)) ggX6_walked_X6_planWalk
theorem dX6_walked_0 : decode cX6_walked 0 = .ok (.iload 4, 2) := by decide +kernel
theorem dX6_walked_2 : decode cX6_walked 2 = .ok (.ifCond .lt 19, 3) := by decide +kernel
theorem dX6_walked_5 : decode cX6_walked 5 = .ok (.iload 4, 2) := by decide +kernel
theorem dX6_walked_7 : decode cX6_walked 7 = .ok (.iconst 1, 1) := by decide +kernel
theorem dX6_walked_8 : decode cX6_walked 8 = .ok (.if_icmp .gt 13, 3) := by decide +kernel
theorem dX6_walked_11 : decode cX6_walked 11 = .ok (.aload_n 0, 1) := by decide +kernel
theorem dX6_walked_12 : decode cX6_walked 12 = .ok (.iload_n 1, 1) := by decide +kernel
theorem dX6_walked_13 : decode cX6_walked 13 = .ok (.iload_n 2, 1) := by decide +kernel
theorem dX6_walked_14 : decode cX6_walked 14 = .ok (.iload_n 3, 1) := by decide +kernel
theorem dX6_walked_15 : decode cX6_walked 15 = .ok (.invokevirtual 217, 3) := by decide +kernel
theorem dX6_walked_18 : decode cX6_walked 18 = .ok (.ifCond .ne 5, 3) := by decide +kernel
theorem dX6_walked_21 : decode cX6_walked 21 = .ok (.iconst (-1), 1) := by decide +kernel
theorem dX6_walked_22 : decode cX6_walked 22 = .ok (.ireturn, 1) := by decide +kernel
theorem dX6_walked_23 : decode cX6_walked 23 = .ok (.iload 4, 2) := by decide +kernel
theorem dX6_walked_25 : decode cX6_walked 25 = .ok (.ifCond .ne 13, 3) := by decide +kernel
theorem dX6_walked_28 : decode cX6_walked 28 = .ok (.aload_n 0, 1) := by decide +kernel
theorem dX6_walked_29 : decode cX6_walked 29 = .ok (.getfield 42, 3) := by decide +kernel
theorem dX6_walked_32 : decode cX6_walked 32 = .ok (.getfield 229, 3) := by decide +kernel
theorem dX6_walked_35 : decode cX6_walked 35 = .ok (.goto 10, 3) := by decide +kernel
theorem dX6_walked_38 : decode cX6_walked 38 = .ok (.aload_n 0, 1) := by decide +kernel
theorem dX6_walked_39 : decode cX6_walked 39 = .ok (.getfield 42, 3) := by decide +kernel
theorem dX6_walked_42 : decode cX6_walked 42 = .ok (.getfield 232, 3) := by decide +kernel
theorem dX6_walked_45 : decode cX6_walked 45 = .ok (.ireturn, 1) := by decide +kernel
set_option maxRecDepth 20000 in
theorem ggX6_count_Jx4a65c_size_8abf5 : GoodIn wsX6_count wsJx4a65c_size_8abf5 := goodIn_r _ [16, 17, 66, 67, 68] (by decide +kernel) (by decide +kernel)
set_option maxRecDepth 20000 in
theorem gX6_count_Jx4a65c_size_8abf5_f76Jx4a65c : GoodIn wsX6_count (va_wsF RX6 76 RJx4a65c ⟨"java/util/List", "size", "()I"⟩ yJx4a65c_size_8abf5 wsJx4a65c_size_8abf5) := goodIn_app (goodIn_of _ (by decide +kernel)) ggX6_count_Jx4a65c_size_8abf5
set_option maxRecDepth 20000 in
theorem ggX6_count_X6_inAllCups : GoodIn wsX6_count wsX6_inAllCups := goodIn_r _ [22, 2, 23, 12, 13, 14, 15, 16, 17, 24, 25, 26, 27, 28, 29, 30, 31, 32, 33, 34, 35, 36, 37, 38, 39, 40, 41, 42, 43, 44, 45, 46, 47, 48, 49, 50, 51, 52, 53, 54, 55, 56, 57, 58, 59, 60, 61, 62, 66, 67, 68, 69, 70, 71, 72, 73, 74, 75, 76, 77, 78, 79, 80, 81] (by decide +kernel) (by decide +kernel)
set_option maxRecDepth 20000 in
theorem gX6_count_X6_inAllCups : GoodIn wsX6_count (wsV RX6 244 RX6 yX6_inAllCups wsX6_inAllCups) := goodIn_app (goodIn_of _ (by decide +kernel)) ggX6_count_X6_inAllCups
theorem dX6_count_0 : decode cX6_count 0 = .ok (.iload_n 1, 1) := by decide +kernel
theorem dX6_count_1 : decode cX6_count 1 = .ok (.tableswitch 133 0 10 #[59, 64, 74, 84, 92, 100, 108, 113, 118, 123, 128], 59) := by decide +kernel
theorem dX6_count_60 : decode cX6_count 60 = .ok (.aload_n 0, 1) := by decide +kernel
theorem dX6_count_61 : decode cX6_count 61 = .ok (.getfield 46, 3) := by decide +kernel
theorem dX6_count_64 : decode cX6_count 64 = .ok (.ireturn, 1) := by decide +kernel
theorem dX6_count_65 : decode cX6_count 65 = .ok (.aload_n 0, 1) := by decide +kernel
theorem dX6_count_66 : decode cX6_count 66 = .ok (.getfield 25, 3) := by decide +kernel
theorem dX6_count_69 : decode cX6_count 69 = .ok (.invokeinterface 76 1, 5) := by decide +kernel
theorem dX6_count_74 : decode cX6_count 74 = .ok (.ireturn, 1) := by decide +kernel
theorem dX6_count_75 : decode cX6_count 75 = .ok (.aload_n 0, 1) := by decide +kernel
theorem dX6_count_76 : decode cX6_count 76 = .ok (.getfield 29, 3) := by decide +kernel
theorem dX6_count_79 : decode cX6_count 79 = .ok (.invokeinterface 76 1, 5) := by decide +kernel
theorem dX6_count_84 : decode cX6_count 84 = .ok (.ireturn, 1) := by decide +kernel
theorem dX6_count_85 : decode cX6_count 85 = .ok (.aload_n 0, 1) := by decide +kernel
theorem dX6_count_86 : decode cX6_count 86 = .ok (.getfield 35, 3) := by decide +kernel
theorem dX6_count_89 : decode cX6_count 89 = .ok (.getfield 235, 3) := by decide +kernel
theorem dX6_count_92 : decode cX6_count 92 = .ok (.ireturn, 1) := by decide +kernel
theorem dX6_count_93 : decode cX6_count 93 = .ok (.aload_n 0, 1) := by decide +kernel
theorem dX6_count_94 : decode cX6_count 94 = .ok (.getfield 35, 3) := by decide +kernel
theorem dX6_count_97 : decode cX6_count 97 = .ok (.getfield 238, 3) := by decide +kernel
theorem dX6_count_100 : decode cX6_count 100 = .ok (.ireturn, 1) := by decide +kernel
theorem dX6_count_101 : decode cX6_count 101 = .ok (.aload_n 0, 1) := by decide +kernel
theorem dX6_count_102 : decode cX6_count 102 = .ok (.getfield 35, 3) := by decide +kernel
theorem dX6_count_105 : decode cX6_count 105 = .ok (.getfield 241, 3) := by decide +kernel
theorem dX6_count_108 : decode cX6_count 108 = .ok (.ireturn, 1) := by decide +kernel
theorem dX6_count_109 : decode cX6_count 109 = .ok (.aload_n 0, 1) := by decide +kernel
theorem dX6_count_110 : decode cX6_count 110 = .ok (.getfield 53, 3) := by decide +kernel
theorem dX6_count_113 : decode cX6_count 113 = .ok (.ireturn, 1) := by decide +kernel
theorem dX6_count_114 : decode cX6_count 114 = .ok (.aload_n 0, 1) := by decide +kernel
theorem dX6_count_115 : decode cX6_count 115 = .ok (.invokevirtual 244, 3) := by decide +kernel
theorem dX6_count_118 : decode cX6_count 118 = .ok (.ireturn, 1) := by decide +kernel
theorem dX6_count_119 : decode cX6_count 119 = .ok (.aload_n 0, 1) := by decide +kernel
theorem dX6_count_120 : decode cX6_count 120 = .ok (.getfield 50, 3) := by decide +kernel
theorem dX6_count_123 : decode cX6_count 123 = .ok (.ireturn, 1) := by decide +kernel
theorem dX6_count_124 : decode cX6_count 124 = .ok (.aload_n 0, 1) := by decide +kernel
theorem dX6_count_125 : decode cX6_count 125 = .ok (.getfield 56, 3) := by decide +kernel
theorem dX6_count_128 : decode cX6_count 128 = .ok (.ireturn, 1) := by decide +kernel
theorem dX6_count_129 : decode cX6_count 129 = .ok (.aload_n 0, 1) := by decide +kernel
theorem dX6_count_130 : decode cX6_count 130 = .ok (.getfield 59, 3) := by decide +kernel
theorem dX6_count_133 : decode cX6_count 133 = .ok (.ireturn, 1) := by decide +kernel
theorem dX6_count_134 : decode cX6_count 134 = .ok (.iconst (-1), 1) := by decide +kernel
theorem dX6_count_135 : decode cX6_count 135 = .ok (.ireturn, 1) := by decide +kernel
theorem dX6_isPlace_0 : decode cX6_isPlace 0 = .ok (.iload_n 0, 1) := by decide +kernel
theorem dX6_isPlace_1 : decode cX6_isPlace 1 = .ok (.ifCond .lt 14, 3) := by decide +kernel
theorem dX6_isPlace_4 : decode cX6_isPlace 4 = .ok (.iload_n 0, 1) := by decide +kernel
theorem dX6_isPlace_5 : decode cX6_isPlace 5 = .ok (.sipush 10000, 3) := by decide +kernel
theorem dX6_isPlace_8 : decode cX6_isPlace 8 = .ok (.if_icmp .ge 7, 3) := by decide +kernel
theorem dX6_isPlace_11 : decode cX6_isPlace 11 = .ok (.iconst 1, 1) := by decide +kernel
theorem dX6_isPlace_12 : decode cX6_isPlace 12 = .ok (.goto 4, 3) := by decide +kernel
theorem dX6_isPlace_15 : decode cX6_isPlace 15 = .ok (.iconst 0, 1) := by decide +kernel
theorem dX6_isPlace_16 : decode cX6_isPlace 16 = .ok (.ireturn, 1) := by decide +kernel
theorem dX6_isGirth_0 : decode cX6_isGirth 0 = .ok (.iload_n 0, 1) := by decide +kernel
theorem dX6_isGirth_1 : decode cX6_isGirth 1 = .ok (.bipush 20, 2) := by decide +kernel
theorem dX6_isGirth_3 : decode cX6_isGirth 3 = .ok (.if_icmp .lt 14, 3) := by decide +kernel
theorem dX6_isGirth_6 : decode cX6_isGirth 6 = .ok (.iload_n 0, 1) := by decide +kernel
theorem dX6_isGirth_7 : decode cX6_isGirth 7 = .ok (.sipush 400, 3) := by decide +kernel
theorem dX6_isGirth_10 : decode cX6_isGirth 10 = .ok (.if_icmp .gt 7, 3) := by decide +kernel
theorem dX6_isGirth_13 : decode cX6_isGirth 13 = .ok (.iconst 1, 1) := by decide +kernel
theorem dX6_isGirth_14 : decode cX6_isGirth 14 = .ok (.goto 4, 3) := by decide +kernel
theorem dX6_isGirth_17 : decode cX6_isGirth 17 = .ok (.iconst 0, 1) := by decide +kernel
theorem dX6_isGirth_18 : decode cX6_isGirth 18 = .ok (.ireturn, 1) := by decide +kernel
theorem dX6_isWeather_0 : decode cX6_isWeather 0 = .ok (.iload_n 0, 1) := by decide +kernel
theorem dX6_isWeather_1 : decode cX6_isWeather 1 = .ok (.ifCond .lt 13, 3) := by decide +kernel
theorem dX6_isWeather_4 : decode cX6_isWeather 4 = .ok (.iload_n 0, 1) := by decide +kernel
theorem dX6_isWeather_5 : decode cX6_isWeather 5 = .ok (.bipush 9, 2) := by decide +kernel
theorem dX6_isWeather_7 : decode cX6_isWeather 7 = .ok (.if_icmp .gt 7, 3) := by decide +kernel
theorem dX6_isWeather_10 : decode cX6_isWeather 10 = .ok (.iconst 1, 1) := by decide +kernel
theorem dX6_isWeather_11 : decode cX6_isWeather 11 = .ok (.goto 4, 3) := by decide +kernel
theorem dX6_isWeather_14 : decode cX6_isWeather 14 = .ok (.iconst 0, 1) := by decide +kernel
theorem dX6_isWeather_15 : decode cX6_isWeather 15 = .ok (.ireturn, 1) := by decide +kernel
theorem dX6_facesBorneBy_0 : decode cX6_facesBorneBy 0 = .ok (.iload_n 0, 1) := by decide +kernel
theorem dX6_facesBorneBy_1 : decode cX6_facesBorneBy 1 = .ok (.bipush 80, 2) := by decide +kernel
theorem dX6_facesBorneBy_3 : decode cX6_facesBorneBy 3 = .ok (.if_icmp .ge 5, 3) := by decide +kernel
theorem dX6_facesBorneBy_6 : decode cX6_facesBorneBy 6 = .ok (.iconst 0, 1) := by decide +kernel
theorem dX6_facesBorneBy_7 : decode cX6_facesBorneBy 7 = .ok (.ireturn, 1) := by decide +kernel
theorem dX6_facesBorneBy_8 : decode cX6_facesBorneBy 8 = .ok (.iload_n 0, 1) := by decide +kernel
theorem dX6_facesBorneBy_9 : decode cX6_facesBorneBy 9 = .ok (.sipush 150, 3) := by decide +kernel
theorem dX6_facesBorneBy_12 : decode cX6_facesBorneBy 12 = .ok (.if_icmp .ge 5, 3) := by decide +kernel
theorem dX6_facesBorneBy_15 : decode cX6_facesBorneBy 15 = .ok (.iconst 1, 1) := by decide +kernel
theorem dX6_facesBorneBy_16 : decode cX6_facesBorneBy 16 = .ok (.ireturn, 1) := by decide +kernel
theorem dX6_facesBorneBy_17 : decode cX6_facesBorneBy 17 = .ok (.iload_n 0, 1) := by decide +kernel
theorem dX6_facesBorneBy_18 : decode cX6_facesBorneBy 18 = .ok (.sipush 220, 3) := by decide +kernel
theorem dX6_facesBorneBy_21 : decode cX6_facesBorneBy 21 = .ok (.if_icmp .ge 7, 3) := by decide +kernel
theorem dX6_facesBorneBy_24 : decode cX6_facesBorneBy 24 = .ok (.iconst 2, 1) := by decide +kernel
theorem dX6_facesBorneBy_25 : decode cX6_facesBorneBy 25 = .ok (.goto 4, 3) := by decide +kernel
theorem dX6_facesBorneBy_28 : decode cX6_facesBorneBy 28 = .ok (.iconst 3, 1) := by decide +kernel
theorem dX6_facesBorneBy_29 : decode cX6_facesBorneBy 29 = .ok (.ireturn, 1) := by decide +kernel
theorem dX6_yearOf_0 : decode cX6_yearOf 0 = .ok (.iload_n 0, 1) := by decide +kernel
theorem dX6_yearOf_1 : decode cX6_yearOf 1 = .ok (.sipush 365, 3) := by decide +kernel
theorem dX6_yearOf_4 : decode cX6_yearOf 4 = .ok (.idiv, 1) := by decide +kernel
theorem dX6_yearOf_5 : decode cX6_yearOf 5 = .ok (.ireturn, 1) := by decide +kernel
theorem dX6_woodAt_0 : decode cX6_woodAt 0 = .ok (.iload_n 1, 1) := by decide +kernel
theorem dX6_woodAt_1 : decode cX6_woodAt 1 = .ok (.ifCond .lt 9, 3) := by decide +kernel
theorem dX6_woodAt_4 : decode cX6_woodAt 4 = .ok (.iload_n 1, 1) := by decide +kernel
theorem dX6_woodAt_5 : decode cX6_woodAt 5 = .ok (.bipush 6, 2) := by decide +kernel
theorem dX6_woodAt_7 : decode cX6_woodAt 7 = .ok (.if_icmp .lt 7, 3) := by decide +kernel
theorem dX6_woodAt_10 : decode cX6_woodAt 10 = .ok (.aconst_null, 1) := by decide +kernel
theorem dX6_woodAt_11 : decode cX6_woodAt 11 = .ok (.goto 9, 3) := by decide +kernel
theorem dX6_woodAt_14 : decode cX6_woodAt 14 = .ok (.aload_n 0, 1) := by decide +kernel
theorem dX6_woodAt_15 : decode cX6_woodAt 15 = .ok (.getfield 18, 3) := by decide +kernel
theorem dX6_woodAt_18 : decode cX6_woodAt 18 = .ok (.iload_n 1, 1) := by decide +kernel
theorem dX6_woodAt_19 : decode cX6_woodAt 19 = .ok (.aaload, 1) := by decide +kernel
theorem dX6_woodAt_20 : decode cX6_woodAt 20 = .ok (.areturn, 1) := by decide +kernel
set_option maxRecDepth 20000 in
theorem ggX6_treeAt_Jx4a65c_size_8abf5 : GoodIn wsX6_treeAt wsJx4a65c_size_8abf5 := goodIn_r _ [7, 8, 38, 39, 40] (by decide +kernel) (by decide +kernel)
set_option maxRecDepth 20000 in
theorem gX6_treeAt_Jx4a65c_size_8abf5_f76Jx4a65c : GoodIn wsX6_treeAt (va_wsF RX6 76 RJx4a65c ⟨"java/util/List", "size", "()I"⟩ yJx4a65c_size_8abf5 wsJx4a65c_size_8abf5) := goodIn_app (goodIn_of _ (by decide +kernel)) ggX6_treeAt_Jx4a65c_size_8abf5
set_option maxRecDepth 20000 in
theorem ggX6_treeAt_Jx4a65c_get_915e3 : GoodIn wsX6_treeAt wsJx4a65c_get_915e3 := goodIn_r _ [12, 8, 13, 14, 15, 16, 17, 18, 19, 20, 21, 22, 23, 6, 24, 25, 38, 39, 40] (by decide +kernel) (by decide +kernel)
set_option maxRecDepth 20000 in
theorem gX6_treeAt_Jx4a65c_get_915e3_f157Jx4a65c : GoodIn wsX6_treeAt (va_wsF RX6 157 RJx4a65c ⟨"java/util/List", "get", "(I)Ljava/lang/Object;"⟩ yJx4a65c_get_915e3 wsJx4a65c_get_915e3) := goodIn_app (goodIn_of _ (by decide +kernel)) ggX6_treeAt_Jx4a65c_get_915e3
theorem dX6_treeAt_0 : decode cX6_treeAt 0 = .ok (.iload_n 1, 1) := by decide +kernel
theorem dX6_treeAt_1 : decode cX6_treeAt 1 = .ok (.ifCond .lt 16, 3) := by decide +kernel
theorem dX6_treeAt_4 : decode cX6_treeAt 4 = .ok (.iload_n 1, 1) := by decide +kernel
theorem dX6_treeAt_5 : decode cX6_treeAt 5 = .ok (.aload_n 0, 1) := by decide +kernel
theorem dX6_treeAt_6 : decode cX6_treeAt 6 = .ok (.getfield 25, 3) := by decide +kernel
theorem dX6_treeAt_9 : decode cX6_treeAt 9 = .ok (.invokeinterface 76 1, 5) := by decide +kernel
theorem dX6_treeAt_14 : decode cX6_treeAt 14 = .ok (.if_icmp .lt 7, 3) := by decide +kernel
theorem dX6_treeAt_17 : decode cX6_treeAt 17 = .ok (.aconst_null, 1) := by decide +kernel
theorem dX6_treeAt_18 : decode cX6_treeAt 18 = .ok (.goto 16, 3) := by decide +kernel
theorem dX6_treeAt_21 : decode cX6_treeAt 21 = .ok (.aload_n 0, 1) := by decide +kernel
theorem dX6_treeAt_22 : decode cX6_treeAt 22 = .ok (.getfield 25, 3) := by decide +kernel
theorem dX6_treeAt_25 : decode cX6_treeAt 25 = .ok (.iload_n 1, 1) := by decide +kernel
theorem dX6_treeAt_26 : decode cX6_treeAt 26 = .ok (.invokeinterface 157 2, 5) := by decide +kernel
theorem dX6_treeAt_31 : decode cX6_treeAt 31 = .ok (.checkcast 82, 3) := by decide +kernel
theorem dX6_treeAt_34 : decode cX6_treeAt 34 = .ok (.areturn, 1) := by decide +kernel
set_option maxRecDepth 20000 in
theorem ggX6_barrelAt_Jx4a65c_size_8abf5 : GoodIn wsX6_barrelAt wsJx4a65c_size_8abf5 := goodIn_r _ [7, 8, 38, 39, 40] (by decide +kernel) (by decide +kernel)
set_option maxRecDepth 20000 in
theorem gX6_barrelAt_Jx4a65c_size_8abf5_f76Jx4a65c : GoodIn wsX6_barrelAt (va_wsF RX6 76 RJx4a65c ⟨"java/util/List", "size", "()I"⟩ yJx4a65c_size_8abf5 wsJx4a65c_size_8abf5) := goodIn_app (goodIn_of _ (by decide +kernel)) ggX6_barrelAt_Jx4a65c_size_8abf5
set_option maxRecDepth 20000 in
theorem ggX6_barrelAt_Jx4a65c_get_915e3 : GoodIn wsX6_barrelAt wsJx4a65c_get_915e3 := goodIn_r _ [12, 8, 13, 14, 15, 16, 17, 18, 19, 20, 21, 22, 23, 6, 24, 25, 38, 39, 40] (by decide +kernel) (by decide +kernel)
set_option maxRecDepth 20000 in
theorem gX6_barrelAt_Jx4a65c_get_915e3_f157Jx4a65c : GoodIn wsX6_barrelAt (va_wsF RX6 157 RJx4a65c ⟨"java/util/List", "get", "(I)Ljava/lang/Object;"⟩ yJx4a65c_get_915e3 wsJx4a65c_get_915e3) := goodIn_app (goodIn_of _ (by decide +kernel)) ggX6_barrelAt_Jx4a65c_get_915e3
theorem dX6_barrelAt_0 : decode cX6_barrelAt 0 = .ok (.iload_n 1, 1) := by decide +kernel
theorem dX6_barrelAt_1 : decode cX6_barrelAt 1 = .ok (.ifCond .lt 16, 3) := by decide +kernel
theorem dX6_barrelAt_4 : decode cX6_barrelAt 4 = .ok (.iload_n 1, 1) := by decide +kernel
theorem dX6_barrelAt_5 : decode cX6_barrelAt 5 = .ok (.aload_n 0, 1) := by decide +kernel
theorem dX6_barrelAt_6 : decode cX6_barrelAt 6 = .ok (.getfield 29, 3) := by decide +kernel
theorem dX6_barrelAt_9 : decode cX6_barrelAt 9 = .ok (.invokeinterface 76 1, 5) := by decide +kernel
theorem dX6_barrelAt_14 : decode cX6_barrelAt 14 = .ok (.if_icmp .lt 7, 3) := by decide +kernel
theorem dX6_barrelAt_17 : decode cX6_barrelAt 17 = .ok (.aconst_null, 1) := by decide +kernel
theorem dX6_barrelAt_18 : decode cX6_barrelAt 18 = .ok (.goto 16, 3) := by decide +kernel
theorem dX6_barrelAt_21 : decode cX6_barrelAt 21 = .ok (.aload_n 0, 1) := by decide +kernel
theorem dX6_barrelAt_22 : decode cX6_barrelAt 22 = .ok (.getfield 29, 3) := by decide +kernel
theorem dX6_barrelAt_25 : decode cX6_barrelAt 25 = .ok (.iload_n 1, 1) := by decide +kernel
theorem dX6_barrelAt_26 : decode cX6_barrelAt 26 = .ok (.invokeinterface 157 2, 5) := by decide +kernel
theorem dX6_barrelAt_31 : decode cX6_barrelAt 31 = .ok (.checkcast 171, 3) := by decide +kernel
theorem dX6_barrelAt_34 : decode cX6_barrelAt 34 = .ok (.areturn, 1) := by decide +kernel
set_option maxRecDepth 20000 in
theorem ggX6_endDay_Jx4a65c_size_8abf5 : GoodIn wsX6_endDay wsJx4a65c_size_8abf5 := goodIn_r _ [14, 15, 91, 92, 93] (by decide +kernel) (by decide +kernel)
set_option maxRecDepth 20000 in
theorem gX6_endDay_Jx4a65c_size_8abf5_f76Jx4a65c : GoodIn wsX6_endDay (va_wsF RX6 76 RJx4a65c ⟨"java/util/List", "size", "()I"⟩ yJx4a65c_size_8abf5 wsJx4a65c_size_8abf5) := goodIn_app (goodIn_of _ (by decide +kernel)) ggX6_endDay_Jx4a65c_size_8abf5
set_option maxRecDepth 20000 in
theorem ggX6_endDay_Jx4a65c_get_915e3 : GoodIn wsX6_endDay wsJx4a65c_get_915e3 := goodIn_r _ [19, 15, 20, 21, 22, 23, 24, 25, 26, 27, 28, 29, 30, 13, 31, 32, 91, 92, 93] (by decide +kernel) (by decide +kernel)
set_option maxRecDepth 20000 in
theorem gX6_endDay_Jx4a65c_get_915e3_f157Jx4a65c : GoodIn wsX6_endDay (va_wsF RX6 157 RJx4a65c ⟨"java/util/List", "get", "(I)Ljava/lang/Object;"⟩ yJx4a65c_get_915e3 wsJx4a65c_get_915e3) := goodIn_app (goodIn_of _ (by decide +kernel)) ggX6_endDay_Jx4a65c_get_915e3
set_option maxRecDepth 20000 in
theorem ggX6_endDay_X1_endDay : GoodIn wsX6_endDay wsX1_endDay := goodIn_r _ [37, 38, 39, 40, 41, 42, 43, 44, 36, 45, 46, 47, 48, 49, 50, 51, 52, 53, 54, 55, 56, 57, 58, 59, 60, 61, 62, 63, 64, 65, 66, 67, 68, 69, 70, 71, 94, 95, 96, 97, 98, 99, 100, 101, 102] (by decide +kernel) (by decide +kernel)
set_option maxRecDepth 20000 in
theorem gX6_endDay_X1_endDay : GoodIn wsX6_endDay (wsV RX6 247 RX1 yX1_endDay wsX1_endDay) := goodIn_app (goodIn_of _ (by decide +kernel)) ggX6_endDay_X1_endDay
theorem dX6_endDay_0 : decode cX6_endDay 0 = .ok (.iconst 0, 1) := by decide +kernel
theorem dX6_endDay_1 : decode cX6_endDay 1 = .ok (.istore_n 1, 1) := by decide +kernel
theorem dX6_endDay_2 : decode cX6_endDay 2 = .ok (.iload_n 1, 1) := by decide +kernel
theorem dX6_endDay_3 : decode cX6_endDay 3 = .ok (.aload_n 0, 1) := by decide +kernel
theorem dX6_endDay_4 : decode cX6_endDay 4 = .ok (.getfield 25, 3) := by decide +kernel
theorem dX6_endDay_7 : decode cX6_endDay 7 = .ok (.invokeinterface 76 1, 5) := by decide +kernel
theorem dX6_endDay_12 : decode cX6_endDay 12 = .ok (.if_icmp .ge 93, 3) := by decide +kernel
theorem dX6_endDay_15 : decode cX6_endDay 15 = .ok (.aload_n 0, 1) := by decide +kernel
theorem dX6_endDay_16 : decode cX6_endDay 16 = .ok (.getfield 25, 3) := by decide +kernel
theorem dX6_endDay_19 : decode cX6_endDay 19 = .ok (.iload_n 1, 1) := by decide +kernel
theorem dX6_endDay_20 : decode cX6_endDay 20 = .ok (.invokeinterface 157 2, 5) := by decide +kernel
theorem dX6_endDay_25 : decode cX6_endDay 25 = .ok (.checkcast 82, 3) := by decide +kernel
theorem dX6_endDay_28 : decode cX6_endDay 28 = .ok (.astore_n 2, 1) := by decide +kernel
theorem dX6_endDay_29 : decode cX6_endDay 29 = .ok (.aload_n 2, 1) := by decide +kernel
theorem dX6_endDay_30 : decode cX6_endDay 30 = .ok (.getfield 102, 3) := by decide +kernel
theorem dX6_endDay_33 : decode cX6_endDay 33 = .ok (.ifCond .ne 66, 3) := by decide +kernel
theorem dX6_endDay_36 : decode cX6_endDay 36 = .ok (.iconst 0, 1) := by decide +kernel
theorem dX6_endDay_37 : decode cX6_endDay 37 = .ok (.istore_n 3, 1) := by decide +kernel
theorem dX6_endDay_38 : decode cX6_endDay 38 = .ok (.iload_n 3, 1) := by decide +kernel
theorem dX6_endDay_39 : decode cX6_endDay 39 = .ok (.aload_n 2, 1) := by decide +kernel
theorem dX6_endDay_40 : decode cX6_endDay 40 = .ok (.getfield 154, 3) := by decide +kernel
theorem dX6_endDay_43 : decode cX6_endDay 43 = .ok (.invokeinterface 76 1, 5) := by decide +kernel
theorem dX6_endDay_48 : decode cX6_endDay 48 = .ok (.if_icmp .ge 51, 3) := by decide +kernel
theorem dX6_endDay_51 : decode cX6_endDay 51 = .ok (.aload_n 2, 1) := by decide +kernel
theorem dX6_endDay_52 : decode cX6_endDay 52 = .ok (.getfield 154, 3) := by decide +kernel
theorem dX6_endDay_55 : decode cX6_endDay 55 = .ok (.iload_n 3, 1) := by decide +kernel
theorem dX6_endDay_56 : decode cX6_endDay 56 = .ok (.invokeinterface 157 2, 5) := by decide +kernel
theorem dX6_endDay_61 : decode cX6_endDay 61 = .ok (.checkcast 117, 3) := by decide +kernel
theorem dX6_endDay_64 : decode cX6_endDay 64 = .ok (.aload_n 0, 1) := by decide +kernel
theorem dX6_endDay_65 : decode cX6_endDay 65 = .ok (.getfield 46, 3) := by decide +kernel
theorem dX6_endDay_68 : decode cX6_endDay 68 = .ok (.aload_n 0, 1) := by decide +kernel
theorem dX6_endDay_69 : decode cX6_endDay 69 = .ok (.getfield 9, 3) := by decide +kernel
theorem dX6_endDay_72 : decode cX6_endDay 72 = .ok (.aload_n 0, 1) := by decide +kernel
theorem dX6_endDay_73 : decode cX6_endDay 73 = .ok (.getfield 46, 3) := by decide +kernel
theorem dX6_endDay_76 : decode cX6_endDay 76 = .ok (.baload, 1) := by decide +kernel
theorem dX6_endDay_77 : decode cX6_endDay 77 = .ok (.aload_n 0, 1) := by decide +kernel
theorem dX6_endDay_78 : decode cX6_endDay 78 = .ok (.getfield 13, 3) := by decide +kernel
theorem dX6_endDay_81 : decode cX6_endDay 81 = .ok (.aload_n 0, 1) := by decide +kernel
theorem dX6_endDay_82 : decode cX6_endDay 82 = .ok (.getfield 46, 3) := by decide +kernel
theorem dX6_endDay_85 : decode cX6_endDay 85 = .ok (.baload, 1) := by decide +kernel
theorem dX6_endDay_86 : decode cX6_endDay 86 = .ok (.aload_n 0, 1) := by decide +kernel
theorem dX6_endDay_87 : decode cX6_endDay 87 = .ok (.getfield 35, 3) := by decide +kernel
theorem dX6_endDay_90 : decode cX6_endDay 90 = .ok (.invokevirtual 247, 3) := by decide +kernel
theorem dX6_endDay_93 : decode cX6_endDay 93 = .ok (.iinc 3 1, 3) := by decide +kernel
theorem dX6_endDay_96 : decode cX6_endDay 96 = .ok (.goto (-58), 3) := by decide +kernel
theorem dX6_endDay_99 : decode cX6_endDay 99 = .ok (.iinc 1 1, 3) := by decide +kernel
theorem dX6_endDay_102 : decode cX6_endDay 102 = .ok (.goto (-100), 3) := by decide +kernel
theorem dX6_endDay_105 : decode cX6_endDay 105 = .ok (.return_, 1) := by decide +kernel
set_option maxRecDepth 20000 in
theorem ggX6_inAllCups_Jx4a65c_size_8abf5 : GoodIn wsX6_inAllCups wsJx4a65c_size_8abf5 := goodIn_r _ [7, 8, 48, 49, 50] (by decide +kernel) (by decide +kernel)
set_option maxRecDepth 20000 in
theorem gX6_inAllCups_Jx4a65c_size_8abf5_f76Jx4a65c : GoodIn wsX6_inAllCups (va_wsF RX6 76 RJx4a65c ⟨"java/util/List", "size", "()I"⟩ yJx4a65c_size_8abf5 wsJx4a65c_size_8abf5) := goodIn_app (goodIn_of _ (by decide +kernel)) ggX6_inAllCups_Jx4a65c_size_8abf5
set_option maxRecDepth 20000 in
theorem ggX6_inAllCups_Jx4a65c_get_915e3 : GoodIn wsX6_inAllCups wsJx4a65c_get_915e3 := goodIn_r _ [12, 8, 13, 14, 15, 16, 17, 18, 19, 20, 21, 22, 23, 6, 24, 25, 48, 49, 50] (by decide +kernel) (by decide +kernel)
set_option maxRecDepth 20000 in
theorem gX6_inAllCups_Jx4a65c_get_915e3_f157Jx4a65c : GoodIn wsX6_inAllCups (va_wsF RX6 157 RJx4a65c ⟨"java/util/List", "get", "(I)Ljava/lang/Object;"⟩ yJx4a65c_get_915e3 wsJx4a65c_get_915e3) := goodIn_app (goodIn_of _ (by decide +kernel)) ggX6_inAllCups_Jx4a65c_get_915e3
set_option maxRecDepth 20000 in
theorem ggX6_inAllCups_X4_inCups : GoodIn wsX6_inAllCups wsX4_inCups := goodIn_r _ [30, 31, 32, 33, 34, 4, 5, 6, 7, 8, 35, 10, 11, 12, 13, 14, 15, 16, 17, 18, 19, 20, 21, 22, 23, 24, 25, 51, 52, 53, 54, 55, 56, 57, 58, 59, 60, 61, 62, 63, 48, 49, 50] (by decide +kernel) (by decide +kernel)
set_option maxRecDepth 20000 in
theorem gX6_inAllCups_X4_inCups : GoodIn wsX6_inAllCups (wsV RX6 143 RX4 yX4_inCups wsX4_inCups) := goodIn_app (goodIn_of _ (by decide +kernel)) ggX6_inAllCups_X4_inCups
theorem dX6_inAllCups_0 : decode cX6_inAllCups 0 = .ok (.iconst 0, 1) := by decide +kernel
theorem dX6_inAllCups_1 : decode cX6_inAllCups 1 = .ok (.istore_n 1, 1) := by decide +kernel
theorem dX6_inAllCups_2 : decode cX6_inAllCups 2 = .ok (.iconst 0, 1) := by decide +kernel
theorem dX6_inAllCups_3 : decode cX6_inAllCups 3 = .ok (.istore_n 2, 1) := by decide +kernel
theorem dX6_inAllCups_4 : decode cX6_inAllCups 4 = .ok (.iload_n 2, 1) := by decide +kernel
theorem dX6_inAllCups_5 : decode cX6_inAllCups 5 = .ok (.aload_n 0, 1) := by decide +kernel
theorem dX6_inAllCups_6 : decode cX6_inAllCups 6 = .ok (.getfield 25, 3) := by decide +kernel
theorem dX6_inAllCups_9 : decode cX6_inAllCups 9 = .ok (.invokeinterface 76 1, 5) := by decide +kernel
theorem dX6_inAllCups_14 : decode cX6_inAllCups 14 = .ok (.if_icmp .ge 28, 3) := by decide +kernel
theorem dX6_inAllCups_17 : decode cX6_inAllCups 17 = .ok (.iload_n 1, 1) := by decide +kernel
theorem dX6_inAllCups_18 : decode cX6_inAllCups 18 = .ok (.aload_n 0, 1) := by decide +kernel
theorem dX6_inAllCups_19 : decode cX6_inAllCups 19 = .ok (.getfield 25, 3) := by decide +kernel
theorem dX6_inAllCups_22 : decode cX6_inAllCups 22 = .ok (.iload_n 2, 1) := by decide +kernel
theorem dX6_inAllCups_23 : decode cX6_inAllCups 23 = .ok (.invokeinterface 157 2, 5) := by decide +kernel
theorem dX6_inAllCups_28 : decode cX6_inAllCups 28 = .ok (.checkcast 82, 3) := by decide +kernel
theorem dX6_inAllCups_31 : decode cX6_inAllCups 31 = .ok (.invokevirtual 143, 3) := by decide +kernel
theorem dX6_inAllCups_34 : decode cX6_inAllCups 34 = .ok (.iadd, 1) := by decide +kernel
theorem dX6_inAllCups_35 : decode cX6_inAllCups 35 = .ok (.istore_n 1, 1) := by decide +kernel
theorem dX6_inAllCups_36 : decode cX6_inAllCups 36 = .ok (.iinc 2 1, 3) := by decide +kernel
theorem dX6_inAllCups_39 : decode cX6_inAllCups 39 = .ok (.goto (-35), 3) := by decide +kernel
theorem dX6_inAllCups_42 : decode cX6_inAllCups 42 = .ok (.iload_n 1, 1) := by decide +kernel
theorem dX6_inAllCups_43 : decode cX6_inAllCups 43 = .ok (.ireturn, 1) := by decide +kernel
set_option maxRecDepth 20000 in
theorem ggX6_newBarrelsFor_X5_openBarrel : GoodIn wsX6_newBarrelsFor wsX5_openBarrel := goodIn_r _ [5, 6, 7, 8, 9, 10, 11, 12, 13, 14, 15, 16, 17, 18, 23, 24, 25, 26, 27, 28, 29, 30, 31, 32, 33, 34] (by decide +kernel) (by decide +kernel)
set_option maxRecDepth 20000 in
theorem gX6_newBarrelsFor_X5_openBarrel : GoodIn wsX6_newBarrelsFor (wsV RX6 250 RX5 yX5_openBarrel wsX5_openBarrel) := goodIn_app (goodIn_of _ (by decide +kernel)) ggX6_newBarrelsFor_X5_openBarrel
set_option maxRecDepth 20000 in
theorem ggX6_newBarrelsFor_X0_room : GoodIn wsX6_newBarrelsFor wsX0_room := goodIn_r _ [22, 12, 29, 30, 31, 32, 33, 34] (by decide +kernel) (by decide +kernel)
set_option maxRecDepth 20000 in
theorem gX6_newBarrelsFor_X0_room : GoodIn wsX6_newBarrelsFor (wsV RX6 254 RX0 yX0_room wsX0_room) := goodIn_app (goodIn_of _ (by decide +kernel)) ggX6_newBarrelsFor_X0_room
theorem dX6_newBarrelsFor_0 : decode cX6_newBarrelsFor 0 = .ok (.aload_n 0, 1) := by decide +kernel
theorem dX6_newBarrelsFor_1 : decode cX6_newBarrelsFor 1 = .ok (.invokevirtual 250, 3) := by decide +kernel
theorem dX6_newBarrelsFor_4 : decode cX6_newBarrelsFor 4 = .ok (.astore_n 2, 1) := by decide +kernel
theorem dX6_newBarrelsFor_5 : decode cX6_newBarrelsFor 5 = .ok (.aload_n 2, 1) := by decide +kernel
theorem dX6_newBarrelsFor_6 : decode cX6_newBarrelsFor 6 = .ok (.ifnonnull 7, 3) := by decide +kernel
theorem dX6_newBarrelsFor_9 : decode cX6_newBarrelsFor 9 = .ok (.iload_n 1, 1) := by decide +kernel
theorem dX6_newBarrelsFor_10 : decode cX6_newBarrelsFor 10 = .ok (.goto 9, 3) := by decide +kernel
theorem dX6_newBarrelsFor_13 : decode cX6_newBarrelsFor 13 = .ok (.iload_n 1, 1) := by decide +kernel
theorem dX6_newBarrelsFor_14 : decode cX6_newBarrelsFor 14 = .ok (.aload_n 2, 1) := by decide +kernel
theorem dX6_newBarrelsFor_15 : decode cX6_newBarrelsFor 15 = .ok (.invokevirtual 254, 3) := by decide +kernel
theorem dX6_newBarrelsFor_18 : decode cX6_newBarrelsFor 18 = .ok (.isub, 1) := by decide +kernel
theorem dX6_newBarrelsFor_19 : decode cX6_newBarrelsFor 19 = .ok (.istore_n 3, 1) := by decide +kernel
theorem dX6_newBarrelsFor_20 : decode cX6_newBarrelsFor 20 = .ok (.iload_n 3, 1) := by decide +kernel
theorem dX6_newBarrelsFor_21 : decode cX6_newBarrelsFor 21 = .ok (.ifCond .gt 7, 3) := by decide +kernel
theorem dX6_newBarrelsFor_24 : decode cX6_newBarrelsFor 24 = .ok (.iconst 0, 1) := by decide +kernel
theorem dX6_newBarrelsFor_25 : decode cX6_newBarrelsFor 25 = .ok (.goto 14, 3) := by decide +kernel
theorem dX6_newBarrelsFor_28 : decode cX6_newBarrelsFor 28 = .ok (.iload_n 3, 1) := by decide +kernel
theorem dX6_newBarrelsFor_29 : decode cX6_newBarrelsFor 29 = .ok (.sipush 1000, 3) := by decide +kernel
theorem dX6_newBarrelsFor_32 : decode cX6_newBarrelsFor 32 = .ok (.iadd, 1) := by decide +kernel
theorem dX6_newBarrelsFor_33 : decode cX6_newBarrelsFor 33 = .ok (.iconst 1, 1) := by decide +kernel
theorem dX6_newBarrelsFor_34 : decode cX6_newBarrelsFor 34 = .ok (.isub, 1) := by decide +kernel
theorem dX6_newBarrelsFor_35 : decode cX6_newBarrelsFor 35 = .ok (.sipush 1000, 3) := by decide +kernel
theorem dX6_newBarrelsFor_38 : decode cX6_newBarrelsFor 38 = .ok (.idiv, 1) := by decide +kernel
theorem dX6_newBarrelsFor_39 : decode cX6_newBarrelsFor 39 = .ok (.ireturn, 1) := by decide +kernel
set_option maxRecDepth 20000 in
theorem ggX6_pourCup_X6_pour : GoodIn wsX6_pourCup wsX6_pour := goodIn_r _ [6, 7, 8, 9, 10, 11, 12, 13, 14, 15, 16, 17, 18, 19, 20, 21, 22, 23, 24, 25, 26, 27, 28, 29, 30, 31, 32, 33, 34, 35, 36, 37, 38, 39, 40, 41, 42, 43, 44, 45, 46, 47, 48, 49, 50, 51, 52, 53, 54, 55, 56, 57, 58, 59, 60, 61, 62, 63, 64, 65, 66, 67, 68, 69, 70, 71, 72, 73, 74, 75, 76, 77, 78, 79, 80, 81, 82, 83, 84, 85, 86, 87, 88, 89, 90, 91, 92, 93, 94, 95, 96, 97, 98, 99, 100, 101, 102, 103, 104, 105, 119, 120, 121, 122, 123, 124, 125, 126, 127, 128, 129, 130, 131, 132, 133, 134, 135, 136, 137, 138, 139, 140, 141, 142, 143, 144, 145, 146, 147, 148, 149, 150, 151, 152] (by decide +kernel) (by decide +kernel)
set_option maxRecDepth 20000 in
theorem gX6_pourCup_X6_pour : GoodIn wsX6_pourCup (wsV RX6 260 RX6 yX6_pour wsX6_pour) := goodIn_app (goodIn_of _ (by decide +kernel)) ggX6_pourCup_X6_pour
set_option maxRecDepth 20000 in
theorem ggX6_pourCup_X1_clearCup : GoodIn wsX6_pourCup wsX1_clearCup := goodIn_r _ [110, 111, 112, 113, 114, 115, 116, 117, 118] (by decide +kernel) (by decide +kernel)
set_option maxRecDepth 20000 in
theorem gX6_pourCup_X1_clearCup : GoodIn wsX6_pourCup (wsV RX6 264 RX1 yX1_clearCup wsX1_clearCup) := goodIn_app (goodIn_of _ (by decide +kernel)) ggX6_pourCup_X1_clearCup
theorem dX6_pourCup_0 : decode cX6_pourCup 0 = .ok (.iconst 0, 1) := by decide +kernel
theorem dX6_pourCup_1 : decode cX6_pourCup 1 = .ok (.istore_n 3, 1) := by decide +kernel
theorem dX6_pourCup_2 : decode cX6_pourCup 2 = .ok (.iload_n 3, 1) := by decide +kernel
theorem dX6_pourCup_3 : decode cX6_pourCup 3 = .ok (.iconst 4, 1) := by decide +kernel
theorem dX6_pourCup_4 : decode cX6_pourCup 4 = .ok (.if_icmp .ge 21, 3) := by decide +kernel
theorem dX6_pourCup_7 : decode cX6_pourCup 7 = .ok (.aload_n 0, 1) := by decide +kernel
theorem dX6_pourCup_8 : decode cX6_pourCup 8 = .ok (.aload_n 1, 1) := by decide +kernel
theorem dX6_pourCup_9 : decode cX6_pourCup 9 = .ok (.iload_n 3, 1) := by decide +kernel
theorem dX6_pourCup_10 : decode cX6_pourCup 10 = .ok (.aload_n 2, 1) := by decide +kernel
theorem dX6_pourCup_11 : decode cX6_pourCup 11 = .ok (.getfield 257, 3) := by decide +kernel
theorem dX6_pourCup_14 : decode cX6_pourCup 14 = .ok (.iload_n 3, 1) := by decide +kernel
theorem dX6_pourCup_15 : decode cX6_pourCup 15 = .ok (.iaload, 1) := by decide +kernel
theorem dX6_pourCup_16 : decode cX6_pourCup 16 = .ok (.invokevirtual 260, 3) := by decide +kernel
theorem dX6_pourCup_19 : decode cX6_pourCup 19 = .ok (.iinc 3 1, 3) := by decide +kernel
theorem dX6_pourCup_22 : decode cX6_pourCup 22 = .ok (.goto (-20), 3) := by decide +kernel
theorem dX6_pourCup_25 : decode cX6_pourCup 25 = .ok (.aload_n 2, 1) := by decide +kernel
theorem dX6_pourCup_26 : decode cX6_pourCup 26 = .ok (.invokevirtual 264, 3) := by decide +kernel
theorem dX6_pourCup_29 : decode cX6_pourCup 29 = .ok (.return_, 1) := by decide +kernel
set_option maxRecDepth 20000 in
theorem ggX6_pour_X5_openBarrel : GoodIn wsX6_pour wsX5_openBarrel := goodIn_r _ [12, 13, 14, 15, 16, 4, 17, 18, 19, 20, 21, 22, 23, 24, 125, 126, 127, 128, 129, 130, 107, 108, 109, 110, 111, 112] (by decide +kernel) (by decide +kernel)
set_option maxRecDepth 20000 in
theorem gX6_pour_X5_openBarrel : GoodIn wsX6_pour (wsV RX6 250 RX5 yX5_openBarrel wsX5_openBarrel) := goodIn_app (goodIn_of _ (by decide +kernel)) ggX6_pour_X5_openBarrel
set_option maxRecDepth 20000 in
theorem ggX6_pour_X0_init : GoodIn wsX6_pour wsX0_init := goodIn_r _ [27, 28, 29, 30, 18, 31, 32, 33, 23, 24, 34, 107, 108, 109, 110, 111, 112] (by decide +kernel) (by decide +kernel)
set_option maxRecDepth 20000 in
theorem gX6_pour_X0_init : GoodIn wsX6_pour (wsX0_init) := ggX6_pour_X0_init
set_option maxRecDepth 20000 in
theorem ggX6_pour_Jx4a65c_add_9ea2d : GoodIn wsX6_pour wsJx4a65c_add_9ea2d := goodIn_r _ [39, 40, 41, 42, 43, 44, 45, 46, 38, 47, 48, 49, 50, 51, 52, 53, 54, 55, 56, 57, 58, 59, 60, 61, 62, 63, 64, 65, 66, 67, 68, 69, 70, 71, 72, 73, 74, 75, 76, 77, 78, 79, 80, 81, 82, 83, 84, 85, 86, 87, 88, 89, 90, 131, 132, 133] (by decide +kernel) (by decide +kernel)
set_option maxRecDepth 20000 in
theorem gX6_pour_Jx4a65c_add_9ea2d_f91Jx4a65c : GoodIn wsX6_pour (va_wsF RX6 91 RJx4a65c ⟨"java/util/List", "add", "(Ljava/lang/Object;)Z"⟩ yJx4a65c_add_9ea2d wsJx4a65c_add_9ea2d) := goodIn_app (goodIn_of _ (by decide +kernel)) ggX6_pour_Jx4a65c_add_9ea2d
set_option maxRecDepth 20000 in
theorem ggX6_pour_X0_fill : GoodIn wsX6_pour wsX0_fill := goodIn_r _ [94, 95, 85, 59, 86, 18, 32, 33, 96, 97, 98, 4, 99, 107, 108, 109, 110, 111, 112] (by decide +kernel) (by decide +kernel)
set_option maxRecDepth 20000 in
theorem gX6_pour_X0_fill : GoodIn wsX6_pour (wsV RX6 274 RX0 yX0_fill wsX0_fill) := goodIn_app (goodIn_of _ (by decide +kernel)) ggX6_pour_X0_fill
theorem dX6_pour_0 : decode cX6_pour 0 = .ok (.iload_n 3, 1) := by decide +kernel
theorem dX6_pour_1 : decode cX6_pour 1 = .ok (.istore 4, 2) := by decide +kernel
theorem dX6_pour_3 : decode cX6_pour 3 = .ok (.iconst 0, 1) := by decide +kernel
theorem dX6_pour_4 : decode cX6_pour 4 = .ok (.istore 5, 2) := by decide +kernel
theorem dX6_pour_6 : decode cX6_pour 6 = .ok (.iload 4, 2) := by decide +kernel
theorem dX6_pour_8 : decode cX6_pour 8 = .ok (.ifCond .le 82, 3) := by decide +kernel
theorem dX6_pour_11 : decode cX6_pour 11 = .ok (.iload 5, 2) := by decide +kernel
theorem dX6_pour_13 : decode cX6_pour 13 = .ok (.sipush 200, 3) := by decide +kernel
theorem dX6_pour_16 : decode cX6_pour 16 = .ok (.if_icmp .gt 74, 3) := by decide +kernel
theorem dX6_pour_19 : decode cX6_pour 19 = .ok (.aload_n 1, 1) := by decide +kernel
theorem dX6_pour_20 : decode cX6_pour 20 = .ok (.getfield 146, 3) := by decide +kernel
theorem dX6_pour_23 : decode cX6_pour 23 = .ok (.invokevirtual 250, 3) := by decide +kernel
theorem dX6_pour_26 : decode cX6_pour 26 = .ok (.astore 6, 2) := by decide +kernel
theorem dX6_pour_28 : decode cX6_pour 28 = .ok (.aload 6, 2) := by decide +kernel
theorem dX6_pour_30 : decode cX6_pour 30 = .ok (.ifnonnull 37, 3) := by decide +kernel
theorem dX6_pour_33 : decode cX6_pour 33 = .ok (.new 171, 3) := by decide +kernel
theorem dX6_pour_36 : decode cX6_pour 36 = .ok (.dup, 1) := by decide +kernel
theorem dX6_pour_37 : decode cX6_pour 37 = .ok (.aload_n 1, 1) := by decide +kernel
theorem dX6_pour_38 : decode cX6_pour 38 = .ok (.getfield 146, 3) := by decide +kernel
theorem dX6_pour_41 : decode cX6_pour 41 = .ok (.invokespecial 267, 3) := by decide +kernel
theorem dX6_pour_44 : decode cX6_pour 44 = .ok (.astore 6, 2) := by decide +kernel
theorem dX6_pour_46 : decode cX6_pour 46 = .ok (.aload_n 0, 1) := by decide +kernel
theorem dX6_pour_47 : decode cX6_pour 47 = .ok (.getfield 29, 3) := by decide +kernel
theorem dX6_pour_50 : decode cX6_pour 50 = .ok (.aload 6, 2) := by decide +kernel
theorem dX6_pour_52 : decode cX6_pour 52 = .ok (.invokeinterface 91 2, 5) := by decide +kernel
theorem dX6_pour_57 : decode cX6_pour 57 = .ok (.pop, 1) := by decide +kernel
theorem dX6_pour_58 : decode cX6_pour 58 = .ok (.aload_n 1, 1) := by decide +kernel
theorem dX6_pour_59 : decode cX6_pour 59 = .ok (.getfield 146, 3) := by decide +kernel
theorem dX6_pour_62 : decode cX6_pour 62 = .ok (.aload 6, 2) := by decide +kernel
theorem dX6_pour_64 : decode cX6_pour 64 = .ok (.putfield 270, 3) := by decide +kernel
theorem dX6_pour_67 : decode cX6_pour 67 = .ok (.iload 4, 2) := by decide +kernel
theorem dX6_pour_69 : decode cX6_pour 69 = .ok (.aload 6, 2) := by decide +kernel
theorem dX6_pour_71 : decode cX6_pour 71 = .ok (.aload_n 1, 1) := by decide +kernel
theorem dX6_pour_72 : decode cX6_pour 72 = .ok (.getfield 177, 3) := by decide +kernel
theorem dX6_pour_75 : decode cX6_pour 75 = .ok (.iload_n 2, 1) := by decide +kernel
theorem dX6_pour_76 : decode cX6_pour 76 = .ok (.iload 4, 2) := by decide +kernel
theorem dX6_pour_78 : decode cX6_pour 78 = .ok (.invokevirtual 274, 3) := by decide +kernel
theorem dX6_pour_81 : decode cX6_pour 81 = .ok (.isub, 1) := by decide +kernel
theorem dX6_pour_82 : decode cX6_pour 82 = .ok (.istore 4, 2) := by decide +kernel
theorem dX6_pour_84 : decode cX6_pour 84 = .ok (.iinc 5 1, 3) := by decide +kernel
theorem dX6_pour_87 : decode cX6_pour 87 = .ok (.goto (-81), 3) := by decide +kernel
theorem dX6_pour_90 : decode cX6_pour 90 = .ok (.return_, 1) := by decide +kernel
set_option maxRecDepth 20000 in
theorem ggX6_planWalk_J6_bitCount_0f7a4 : GoodIn wsX6_planWalk wsJ6_bitCount_0f7a4 := goodIn_r _ [5, 6, 7, 8] (by decide +kernel) (by decide +kernel)
set_option maxRecDepth 20000 in
theorem gX6_planWalk_J6_bitCount_0f7a4 : GoodIn wsX6_planWalk (va_wsS RX6 278 yJ6_bitCount_0f7a4 wsJ6_bitCount_0f7a4) := goodIn_app (goodIn_of _ (by decide +kernel)) ggX6_planWalk_J6_bitCount_0f7a4
set_option maxRecDepth 20000 in
theorem ggX6_planWalk_X6_isPlace : GoodIn wsX6_planWalk wsX6_isPlace := goodIn_r _ [12] (by decide +kernel) (by decide +kernel)
set_option maxRecDepth 20000 in
theorem gX6_planWalk_X6_isPlace : GoodIn wsX6_planWalk (va_wsS RX6 69 yX6_isPlace wsX6_isPlace) := goodIn_app (goodIn_of _ (by decide +kernel)) ggX6_planWalk_X6_isPlace
set_option maxRecDepth 20000 in
theorem ggX6_planWalk_X2_begin : GoodIn wsX6_planWalk wsX2_begin := goodIn_r _ [17, 18, 19, 153, 154, 155, 156, 157, 158, 159, 160, 161, 162, 163, 164] (by decide +kernel) (by decide +kernel)
set_option maxRecDepth 20000 in
theorem gX6_planWalk_X2_begin : GoodIn wsX6_planWalk (wsV RX6 283 RX2 yX2_begin wsX2_begin) := goodIn_app (goodIn_of _ (by decide +kernel)) ggX6_planWalk_X2_begin
set_option maxRecDepth 20000 in
theorem ggX6_planWalk_X6_treeAt : GoodIn wsX6_planWalk wsX6_treeAt := goodIn_r _ [23, 24, 25, 26, 27, 28, 29, 30, 31, 32, 33, 34, 35, 36, 37, 38, 39, 40, 41, 42, 43, 44, 45, 46, 47, 48, 141, 142, 143, 144, 145, 146, 147, 148, 149, 150, 151, 152, 165, 166, 167] (by decide +kernel) (by decide +kernel)
set_option maxRecDepth 20000 in
theorem gX6_planWalk_X6_treeAt : GoodIn wsX6_planWalk (wsV RX6 98 RX6 yX6_treeAt wsX6_treeAt) := goodIn_app (goodIn_of _ (by decide +kernel)) ggX6_planWalk_X6_treeAt
set_option maxRecDepth 20000 in
theorem ggX6_planWalk_X2_join : GoodIn wsX6_planWalk wsX2_join := goodIn_r _ [52, 18, 53, 54, 55, 56, 57, 58, 59, 60, 61, 153, 154, 155, 156, 157, 158, 159, 160, 161, 162, 163, 164, 168, 169, 170, 171, 172, 173, 174] (by decide +kernel) (by decide +kernel)
set_option maxRecDepth 20000 in
theorem gX6_planWalk_X2_join : GoodIn wsX6_planWalk (wsV RX6 286 RX2 yX2_join wsX2_join) := goodIn_app (goodIn_of _ (by decide +kernel)) ggX6_planWalk_X2_join
set_option maxRecDepth 20000 in
theorem ggX6_planWalk_X6_foreseeTree : GoodIn wsX6_planWalk wsX6_foreseeTree := goodIn_r _ [65, 66, 67, 1, 68, 69, 70, 71, 72, 73, 74, 75, 26, 27, 28, 29, 30, 31, 32, 33, 34, 35, 36, 37, 38, 39, 40, 41, 42, 43, 44, 45, 46, 47, 48, 76, 77, 78, 79, 80, 81, 82, 83, 84, 85, 86, 87, 88, 89, 90, 91, 92, 93, 94, 95, 96, 97, 98, 99, 100, 101, 54, 55, 56, 102, 103, 104, 105, 11, 106, 107, 108, 109, 110, 111, 112, 113, 114, 168, 169, 170, 171, 172, 173, 174, 141, 142, 143, 144, 145, 146, 147, 148, 149, 150, 151, 152, 153, 154, 155, 156, 157, 158, 159, 160, 161, 162, 163, 164, 175, 176, 177, 178, 179, 180, 165, 166, 167, 181, 182, 183] (by decide +kernel) (by decide +kernel)
set_option maxRecDepth 20000 in
theorem gX6_planWalk_X6_foreseeTree : GoodIn wsX6_planWalk (wsV RX6 290 RX6 yX6_foreseeTree wsX6_foreseeTree) := goodIn_app (goodIn_of _ (by decide +kernel)) ggX6_planWalk_X6_foreseeTree
set_option maxRecDepth 20000 in
theorem ggX6_planWalk_X2_visit : GoodIn wsX6_planWalk wsX2_visit := goodIn_r _ [116, 19, 18, 117, 59, 118, 119, 120, 121, 16, 122, 123, 124, 125, 126, 127, 128, 129, 130, 131, 132, 133, 134, 55, 135, 136, 137, 138, 139, 61, 53, 54, 56, 140, 115, 153, 154, 155, 156, 157, 158, 159, 160, 161, 162, 163, 164] (by decide +kernel) (by decide +kernel)
set_option maxRecDepth 20000 in
theorem gX6_planWalk_X2_visit_n294 : GoodIn wsX6_planWalk (wsX2_visit) := ggX6_planWalk_X2_visit
theorem dX6_planWalk_0 : decode cX6_planWalk 0 = .ok (.iload_n 1, 1) := by decide +kernel
theorem dX6_planWalk_1 : decode cX6_planWalk 1 = .ok (.invokestatic 278, 3) := by decide +kernel
theorem dX6_planWalk_4 : decode cX6_planWalk 4 = .ok (.iload_n 2, 1) := by decide +kernel
theorem dX6_planWalk_5 : decode cX6_planWalk 5 = .ok (.invokestatic 278, 3) := by decide +kernel
theorem dX6_planWalk_8 : decode cX6_planWalk 8 = .ok (.iadd, 1) := by decide +kernel
theorem dX6_planWalk_9 : decode cX6_planWalk 9 = .ok (.istore 4, 2) := by decide +kernel
theorem dX6_planWalk_11 : decode cX6_planWalk 11 = .ok (.iload 4, 2) := by decide +kernel
theorem dX6_planWalk_13 : decode cX6_planWalk 13 = .ok (.iconst 1, 1) := by decide +kernel
theorem dX6_planWalk_14 : decode cX6_planWalk 14 = .ok (.if_icmp .lt 17, 3) := by decide +kernel
theorem dX6_planWalk_17 : decode cX6_planWalk 17 = .ok (.iload 4, 2) := by decide +kernel
theorem dX6_planWalk_19 : decode cX6_planWalk 19 = .ok (.bipush 6, 2) := by decide +kernel
theorem dX6_planWalk_21 : decode cX6_planWalk 21 = .ok (.if_icmp .gt 10, 3) := by decide +kernel
theorem dX6_planWalk_24 : decode cX6_planWalk 24 = .ok (.iload_n 3, 1) := by decide +kernel
theorem dX6_planWalk_25 : decode cX6_planWalk 25 = .ok (.invokestatic 69, 3) := by decide +kernel
theorem dX6_planWalk_28 : decode cX6_planWalk 28 = .ok (.ifCond .ne 5, 3) := by decide +kernel
theorem dX6_planWalk_31 : decode cX6_planWalk 31 = .ok (.iconst 0, 1) := by decide +kernel
theorem dX6_planWalk_32 : decode cX6_planWalk 32 = .ok (.ireturn, 1) := by decide +kernel
theorem dX6_planWalk_33 : decode cX6_planWalk 33 = .ok (.iload_n 1, 1) := by decide +kernel
theorem dX6_planWalk_34 : decode cX6_planWalk 34 = .ok (.bipush 30, 2) := by decide +kernel
theorem dX6_planWalk_36 : decode cX6_planWalk 36 = .ok (.iushr, 1) := by decide +kernel
theorem dX6_planWalk_37 : decode cX6_planWalk 37 = .ok (.ifCond .ne 10, 3) := by decide +kernel
theorem dX6_planWalk_40 : decode cX6_planWalk 40 = .ok (.iload_n 2, 1) := by decide +kernel
theorem dX6_planWalk_41 : decode cX6_planWalk 41 = .ok (.bipush 30, 2) := by decide +kernel
theorem dX6_planWalk_43 : decode cX6_planWalk 43 = .ok (.iushr, 1) := by decide +kernel
theorem dX6_planWalk_44 : decode cX6_planWalk 44 = .ok (.ifCond .eq 5, 3) := by decide +kernel
theorem dX6_planWalk_47 : decode cX6_planWalk 47 = .ok (.iconst 0, 1) := by decide +kernel
theorem dX6_planWalk_48 : decode cX6_planWalk 48 = .ok (.ireturn, 1) := by decide +kernel
theorem dX6_planWalk_49 : decode cX6_planWalk 49 = .ok (.aload_n 0, 1) := by decide +kernel
theorem dX6_planWalk_50 : decode cX6_planWalk 50 = .ok (.getfield 42, 3) := by decide +kernel
theorem dX6_planWalk_53 : decode cX6_planWalk 53 = .ok (.invokevirtual 283, 3) := by decide +kernel
theorem dX6_planWalk_56 : decode cX6_planWalk 56 = .ok (.iconst 0, 1) := by decide +kernel
theorem dX6_planWalk_57 : decode cX6_planWalk 57 = .ok (.istore 5, 2) := by decide +kernel
theorem dX6_planWalk_59 : decode cX6_planWalk 59 = .ok (.iload 5, 2) := by decide +kernel
theorem dX6_planWalk_61 : decode cX6_planWalk 61 = .ok (.bipush 60, 2) := by decide +kernel
theorem dX6_planWalk_63 : decode cX6_planWalk 63 = .ok (.if_icmp .ge 69, 3) := by decide +kernel
theorem dX6_planWalk_66 : decode cX6_planWalk 66 = .ok (.iload 5, 2) := by decide +kernel
theorem dX6_planWalk_68 : decode cX6_planWalk 68 = .ok (.bipush 30, 2) := by decide +kernel
theorem dX6_planWalk_70 : decode cX6_planWalk 70 = .ok (.if_icmp .ge 10, 3) := by decide +kernel
theorem dX6_planWalk_73 : decode cX6_planWalk 73 = .ok (.iload_n 1, 1) := by decide +kernel
theorem dX6_planWalk_74 : decode cX6_planWalk 74 = .ok (.iload 5, 2) := by decide +kernel
theorem dX6_planWalk_76 : decode cX6_planWalk 76 = .ok (.iushr, 1) := by decide +kernel
theorem dX6_planWalk_77 : decode cX6_planWalk 77 = .ok (.goto 10, 3) := by decide +kernel
theorem dX6_planWalk_80 : decode cX6_planWalk 80 = .ok (.iload_n 2, 1) := by decide +kernel
theorem dX6_planWalk_81 : decode cX6_planWalk 81 = .ok (.iload 5, 2) := by decide +kernel
theorem dX6_planWalk_83 : decode cX6_planWalk 83 = .ok (.bipush 30, 2) := by decide +kernel
theorem dX6_planWalk_85 : decode cX6_planWalk 85 = .ok (.isub, 1) := by decide +kernel
theorem dX6_planWalk_86 : decode cX6_planWalk 86 = .ok (.iushr, 1) := by decide +kernel
theorem dX6_planWalk_87 : decode cX6_planWalk 87 = .ok (.istore 6, 2) := by decide +kernel
theorem dX6_planWalk_89 : decode cX6_planWalk 89 = .ok (.iload 6, 2) := by decide +kernel
theorem dX6_planWalk_91 : decode cX6_planWalk 91 = .ok (.iconst 1, 1) := by decide +kernel
theorem dX6_planWalk_92 : decode cX6_planWalk 92 = .ok (.iand, 1) := by decide +kernel
theorem dX6_planWalk_93 : decode cX6_planWalk 93 = .ok (.ifCond .eq 33, 3) := by decide +kernel
theorem dX6_planWalk_96 : decode cX6_planWalk 96 = .ok (.aload_n 0, 1) := by decide +kernel
theorem dX6_planWalk_97 : decode cX6_planWalk 97 = .ok (.iload 5, 2) := by decide +kernel
theorem dX6_planWalk_99 : decode cX6_planWalk 99 = .ok (.invokevirtual 98, 3) := by decide +kernel
theorem dX6_planWalk_102 : decode cX6_planWalk 102 = .ok (.astore 7, 2) := by decide +kernel
theorem dX6_planWalk_104 : decode cX6_planWalk 104 = .ok (.aload 7, 2) := by decide +kernel
theorem dX6_planWalk_106 : decode cX6_planWalk 106 = .ok (.ifnonnull 5, 3) := by decide +kernel
theorem dX6_planWalk_109 : decode cX6_planWalk 109 = .ok (.iconst 0, 1) := by decide +kernel
theorem dX6_planWalk_110 : decode cX6_planWalk 110 = .ok (.ireturn, 1) := by decide +kernel
theorem dX6_planWalk_111 : decode cX6_planWalk 111 = .ok (.aload_n 0, 1) := by decide +kernel
theorem dX6_planWalk_112 : decode cX6_planWalk 112 = .ok (.aload 7, 2) := by decide +kernel
theorem dX6_planWalk_114 : decode cX6_planWalk 114 = .ok (.aload_n 0, 1) := by decide +kernel
theorem dX6_planWalk_115 : decode cX6_planWalk 115 = .ok (.getfield 42, 3) := by decide +kernel
theorem dX6_planWalk_118 : decode cX6_planWalk 118 = .ok (.aload 7, 2) := by decide +kernel
theorem dX6_planWalk_120 : decode cX6_planWalk 120 = .ok (.invokevirtual 286, 3) := by decide +kernel
theorem dX6_planWalk_123 : decode cX6_planWalk 123 = .ok (.invokevirtual 290, 3) := by decide +kernel
theorem dX6_planWalk_126 : decode cX6_planWalk 126 = .ok (.iinc 5 1, 3) := by decide +kernel
theorem dX6_planWalk_129 : decode cX6_planWalk 129 = .ok (.goto (-70), 3) := by decide +kernel
theorem dX6_planWalk_132 : decode cX6_planWalk 132 = .ok (.aload_n 0, 1) := by decide +kernel
theorem dX6_planWalk_133 : decode cX6_planWalk 133 = .ok (.getfield 42, 3) := by decide +kernel
theorem dX6_planWalk_136 : decode cX6_planWalk 136 = .ok (.iconst 0, 1) := by decide +kernel
theorem dX6_planWalk_137 : decode cX6_planWalk 137 = .ok (.iload_n 3, 1) := by decide +kernel
theorem dX6_planWalk_138 : decode cX6_planWalk 138 = .ok (.iconst 0, 1) := by decide +kernel
theorem dX6_planWalk_139 : decode cX6_planWalk 139 = .ok (.iconst 0, 1) := by decide +kernel
theorem dX6_planWalk_140 : decode cX6_planWalk 140 = .ok (.invokestatic 294, 3) := by decide +kernel
theorem dX6_planWalk_143 : decode cX6_planWalk 143 = .ok (.iconst 1, 1) := by decide +kernel
theorem dX6_planWalk_144 : decode cX6_planWalk 144 = .ok (.ireturn, 1) := by decide +kernel
set_option maxRecDepth 20000 in
theorem ggX6_foreseeTree_Jx4a65c_size_8abf5 : GoodIn wsX6_foreseeTree wsJx4a65c_size_8abf5 := goodIn_r _ [16, 17, 115, 116, 117] (by decide +kernel) (by decide +kernel)
set_option maxRecDepth 20000 in
theorem gX6_foreseeTree_Jx4a65c_size_8abf5_f76Jx4a65c : GoodIn wsX6_foreseeTree (va_wsF RX6 76 RJx4a65c ⟨"java/util/List", "size", "()I"⟩ yJx4a65c_size_8abf5 wsJx4a65c_size_8abf5) := goodIn_app (goodIn_of _ (by decide +kernel)) ggX6_foreseeTree_Jx4a65c_size_8abf5
set_option maxRecDepth 20000 in
theorem ggX6_foreseeTree_Jx4a65c_get_915e3 : GoodIn wsX6_foreseeTree wsJx4a65c_get_915e3 := goodIn_r _ [21, 17, 22, 23, 24, 25, 26, 27, 28, 29, 30, 31, 32, 15, 33, 34, 115, 116, 117] (by decide +kernel) (by decide +kernel)
set_option maxRecDepth 20000 in
theorem gX6_foreseeTree_Jx4a65c_get_915e3_f157Jx4a65c : GoodIn wsX6_foreseeTree (va_wsF RX6 157 RJx4a65c ⟨"java/util/List", "get", "(I)Ljava/lang/Object;"⟩ yJx4a65c_get_915e3 wsJx4a65c_get_915e3) := goodIn_app (goodIn_of _ (by decide +kernel)) ggX6_foreseeTree_Jx4a65c_get_915e3
set_option maxRecDepth 20000 in
theorem ggX6_foreseeTree_X1_standInFor : GoodIn wsX6_foreseeTree wsX1_standInFor := goodIn_r _ [39, 40, 41, 42, 43, 44, 109, 110, 111, 112, 113, 114] (by decide +kernel) (by decide +kernel)
set_option maxRecDepth 20000 in
theorem gX6_foreseeTree_X1_standInFor : GoodIn wsX6_foreseeTree (wsV RX6 302 RX1 yX1_standInFor wsX1_standInFor) := goodIn_app (goodIn_of _ (by decide +kernel)) ggX6_foreseeTree_X1_standInFor
set_option maxRecDepth 20000 in
theorem ggX6_foreseeTree_X1_endDay : GoodIn wsX6_foreseeTree wsX1_endDay := goodIn_r _ [48, 49, 50, 42, 51, 52, 53, 54, 38, 55, 40, 56, 57, 58, 59, 41, 60, 61, 62, 63, 64, 65, 66, 67, 68, 69, 70, 71, 72, 73, 44, 43, 74, 75, 76, 77, 118, 119, 120, 109, 110, 111, 112, 113, 114] (by decide +kernel) (by decide +kernel)
set_option maxRecDepth 20000 in
theorem gX6_foreseeTree_X1_endDay : GoodIn wsX6_foreseeTree (wsV RX6 247 RX1 yX1_endDay wsX1_endDay) := goodIn_app (goodIn_of _ (by decide +kernel)) ggX6_foreseeTree_X1_endDay
theorem dX6_foreseeTree_0 : decode cX6_foreseeTree 0 = .ok (.aload_n 1, 1) := by decide +kernel
theorem dX6_foreseeTree_1 : decode cX6_foreseeTree 1 = .ok (.getfield 102, 3) := by decide +kernel
theorem dX6_foreseeTree_4 : decode cX6_foreseeTree 4 = .ok (.ifCond .eq 4, 3) := by decide +kernel
theorem dX6_foreseeTree_7 : decode cX6_foreseeTree 7 = .ok (.return_, 1) := by decide +kernel
theorem dX6_foreseeTree_8 : decode cX6_foreseeTree 8 = .ok (.iconst 0, 1) := by decide +kernel
theorem dX6_foreseeTree_9 : decode cX6_foreseeTree 9 = .ok (.istore_n 3, 1) := by decide +kernel
theorem dX6_foreseeTree_10 : decode cX6_foreseeTree 10 = .ok (.iload_n 3, 1) := by decide +kernel
theorem dX6_foreseeTree_11 : decode cX6_foreseeTree 11 = .ok (.aload_n 1, 1) := by decide +kernel
theorem dX6_foreseeTree_12 : decode cX6_foreseeTree 12 = .ok (.getfield 154, 3) := by decide +kernel
theorem dX6_foreseeTree_15 : decode cX6_foreseeTree 15 = .ok (.invokeinterface 76 1, 5) := by decide +kernel
theorem dX6_foreseeTree_20 : decode cX6_foreseeTree 20 = .ok (.if_icmp .ge 125, 3) := by decide +kernel
theorem dX6_foreseeTree_23 : decode cX6_foreseeTree 23 = .ok (.aload_n 0, 1) := by decide +kernel
theorem dX6_foreseeTree_24 : decode cX6_foreseeTree 24 = .ok (.getfield 42, 3) := by decide +kernel
theorem dX6_foreseeTree_27 : decode cX6_foreseeTree 27 = .ok (.getfield 298, 3) := by decide +kernel
theorem dX6_foreseeTree_30 : decode cX6_foreseeTree 30 = .ok (.aload_n 1, 1) := by decide +kernel
theorem dX6_foreseeTree_31 : decode cX6_foreseeTree 31 = .ok (.getfield 154, 3) := by decide +kernel
theorem dX6_foreseeTree_34 : decode cX6_foreseeTree 34 = .ok (.iload_n 3, 1) := by decide +kernel
theorem dX6_foreseeTree_35 : decode cX6_foreseeTree 35 = .ok (.invokeinterface 157 2, 5) := by decide +kernel
theorem dX6_foreseeTree_40 : decode cX6_foreseeTree 40 = .ok (.checkcast 117, 3) := by decide +kernel
theorem dX6_foreseeTree_43 : decode cX6_foreseeTree 43 = .ok (.invokevirtual 302, 3) := by decide +kernel
theorem dX6_foreseeTree_46 : decode cX6_foreseeTree 46 = .ok (.iconst 1, 1) := by decide +kernel
theorem dX6_foreseeTree_47 : decode cX6_foreseeTree 47 = .ok (.istore 4, 2) := by decide +kernel
theorem dX6_foreseeTree_49 : decode cX6_foreseeTree 49 = .ok (.iload 4, 2) := by decide +kernel
theorem dX6_foreseeTree_51 : decode cX6_foreseeTree 51 = .ok (.bipush 19, 2) := by decide +kernel
theorem dX6_foreseeTree_53 : decode cX6_foreseeTree 53 = .ok (.if_icmp .gt 86, 3) := by decide +kernel
theorem dX6_foreseeTree_56 : decode cX6_foreseeTree 56 = .ok (.aload_n 0, 1) := by decide +kernel
theorem dX6_foreseeTree_57 : decode cX6_foreseeTree 57 = .ok (.getfield 46, 3) := by decide +kernel
theorem dX6_foreseeTree_60 : decode cX6_foreseeTree 60 = .ok (.iload 4, 2) := by decide +kernel
theorem dX6_foreseeTree_62 : decode cX6_foreseeTree 62 = .ok (.iadd, 1) := by decide +kernel
theorem dX6_foreseeTree_63 : decode cX6_foreseeTree 63 = .ok (.iconst 1, 1) := by decide +kernel
theorem dX6_foreseeTree_64 : decode cX6_foreseeTree 64 = .ok (.isub, 1) := by decide +kernel
theorem dX6_foreseeTree_65 : decode cX6_foreseeTree 65 = .ok (.istore 5, 2) := by decide +kernel
theorem dX6_foreseeTree_67 : decode cX6_foreseeTree 67 = .ok (.iload 5, 2) := by decide +kernel
theorem dX6_foreseeTree_69 : decode cX6_foreseeTree 69 = .ok (.sipush 3650, 3) := by decide +kernel
theorem dX6_foreseeTree_72 : decode cX6_foreseeTree 72 = .ok (.if_icmp .ge 36, 3) := by decide +kernel
theorem dX6_foreseeTree_75 : decode cX6_foreseeTree 75 = .ok (.aload_n 0, 1) := by decide +kernel
theorem dX6_foreseeTree_76 : decode cX6_foreseeTree 76 = .ok (.getfield 42, 3) := by decide +kernel
theorem dX6_foreseeTree_79 : decode cX6_foreseeTree 79 = .ok (.getfield 298, 3) := by decide +kernel
theorem dX6_foreseeTree_82 : decode cX6_foreseeTree 82 = .ok (.iload 5, 2) := by decide +kernel
theorem dX6_foreseeTree_84 : decode cX6_foreseeTree 84 = .ok (.aload_n 0, 1) := by decide +kernel
theorem dX6_foreseeTree_85 : decode cX6_foreseeTree 85 = .ok (.getfield 9, 3) := by decide +kernel
theorem dX6_foreseeTree_88 : decode cX6_foreseeTree 88 = .ok (.iload 5, 2) := by decide +kernel
theorem dX6_foreseeTree_90 : decode cX6_foreseeTree 90 = .ok (.baload, 1) := by decide +kernel
theorem dX6_foreseeTree_91 : decode cX6_foreseeTree 91 = .ok (.aload_n 0, 1) := by decide +kernel
theorem dX6_foreseeTree_92 : decode cX6_foreseeTree 92 = .ok (.getfield 13, 3) := by decide +kernel
theorem dX6_foreseeTree_95 : decode cX6_foreseeTree 95 = .ok (.iload 5, 2) := by decide +kernel
theorem dX6_foreseeTree_97 : decode cX6_foreseeTree 97 = .ok (.baload, 1) := by decide +kernel
theorem dX6_foreseeTree_98 : decode cX6_foreseeTree 98 = .ok (.aload_n 0, 1) := by decide +kernel
theorem dX6_foreseeTree_99 : decode cX6_foreseeTree 99 = .ok (.getfield 42, 3) := by decide +kernel
theorem dX6_foreseeTree_102 : decode cX6_foreseeTree 102 = .ok (.getfield 306, 3) := by decide +kernel
theorem dX6_foreseeTree_105 : decode cX6_foreseeTree 105 = .ok (.invokevirtual 247, 3) := by decide +kernel
theorem dX6_foreseeTree_108 : decode cX6_foreseeTree 108 = .ok (.aload_n 0, 1) := by decide +kernel
theorem dX6_foreseeTree_109 : decode cX6_foreseeTree 109 = .ok (.getfield 42, 3) := by decide +kernel
theorem dX6_foreseeTree_112 : decode cX6_foreseeTree 112 = .ok (.getfield 309, 3) := by decide +kernel
theorem dX6_foreseeTree_115 : decode cX6_foreseeTree 115 = .ok (.iload_n 2, 1) := by decide +kernel
theorem dX6_foreseeTree_116 : decode cX6_foreseeTree 116 = .ok (.aaload, 1) := by decide +kernel
theorem dX6_foreseeTree_117 : decode cX6_foreseeTree 117 = .ok (.iload 4, 2) := by decide +kernel
theorem dX6_foreseeTree_119 : decode cX6_foreseeTree 119 = .ok (.dup2, 1) := by decide +kernel
theorem dX6_foreseeTree_120 : decode cX6_foreseeTree 120 = .ok (.iaload, 1) := by decide +kernel
theorem dX6_foreseeTree_121 : decode cX6_foreseeTree 121 = .ok (.aload_n 0, 1) := by decide +kernel
theorem dX6_foreseeTree_122 : decode cX6_foreseeTree 122 = .ok (.getfield 42, 3) := by decide +kernel
theorem dX6_foreseeTree_125 : decode cX6_foreseeTree 125 = .ok (.getfield 298, 3) := by decide +kernel
theorem dX6_foreseeTree_128 : decode cX6_foreseeTree 128 = .ok (.getfield 313, 3) := by decide +kernel
theorem dX6_foreseeTree_131 : decode cX6_foreseeTree 131 = .ok (.iadd, 1) := by decide +kernel
theorem dX6_foreseeTree_132 : decode cX6_foreseeTree 132 = .ok (.iastore, 1) := by decide +kernel
theorem dX6_foreseeTree_133 : decode cX6_foreseeTree 133 = .ok (.iinc 4 1, 3) := by decide +kernel
theorem dX6_foreseeTree_136 : decode cX6_foreseeTree 136 = .ok (.goto (-87), 3) := by decide +kernel
theorem dX6_foreseeTree_139 : decode cX6_foreseeTree 139 = .ok (.iinc 3 1, 3) := by decide +kernel
theorem dX6_foreseeTree_142 : decode cX6_foreseeTree 142 = .ok (.goto (-132), 3) := by decide +kernel
theorem dX6_foreseeTree_145 : decode cX6_foreseeTree 145 = .ok (.return_, 1) := by decide +kernel
theorem dX7_init_0 : decode cX7_init 0 = .ok (.aload_n 0, 1) := by decide +kernel
theorem dX7_init_1 : decode cX7_init 1 = .ok (.invokespecial 1, 3) := by decide +kernel
theorem dX7_init_4 : decode cX7_init 4 = .ok (.aload_n 0, 1) := by decide +kernel
theorem dX7_init_5 : decode cX7_init 5 = .ok (.sipush 3650, 3) := by decide +kernel
theorem dX7_init_8 : decode cX7_init 8 = .ok (.newarray .int, 2) := by decide +kernel
theorem dX7_init_10 : decode cX7_init 10 = .ok (.putfield 9, 3) := by decide +kernel
theorem dX7_init_13 : decode cX7_init 13 = .ok (.aload_n 0, 1) := by decide +kernel
theorem dX7_init_14 : decode cX7_init 14 = .ok (.sipush 3650, 3) := by decide +kernel
theorem dX7_init_17 : decode cX7_init 17 = .ok (.newarray .int, 2) := by decide +kernel
theorem dX7_init_19 : decode cX7_init 19 = .ok (.putfield 13, 3) := by decide +kernel
theorem dX7_init_22 : decode cX7_init 22 = .ok (.aload_n 0, 1) := by decide +kernel
theorem dX7_init_23 : decode cX7_init 23 = .ok (.bipush 60, 2) := by decide +kernel
theorem dX7_init_25 : decode cX7_init 25 = .ok (.newarray .int, 2) := by decide +kernel
theorem dX7_init_27 : decode cX7_init 27 = .ok (.putfield 16, 3) := by decide +kernel
theorem dX7_init_30 : decode cX7_init 30 = .ok (.aload_n 0, 1) := by decide +kernel
theorem dX7_init_31 : decode cX7_init 31 = .ok (.bipush 60, 2) := by decide +kernel
theorem dX7_init_33 : decode cX7_init 33 = .ok (.newarray .int, 2) := by decide +kernel
theorem dX7_init_35 : decode cX7_init 35 = .ok (.putfield 19, 3) := by decide +kernel
theorem dX7_init_38 : decode cX7_init 38 = .ok (.aload_n 0, 1) := by decide +kernel
theorem dX7_init_39 : decode cX7_init 39 = .ok (.bipush 60, 2) := by decide +kernel
theorem dX7_init_41 : decode cX7_init 41 = .ok (.newarray .int, 2) := by decide +kernel
theorem dX7_init_43 : decode cX7_init 43 = .ok (.putfield 22, 3) := by decide +kernel
theorem dX7_init_46 : decode cX7_init 46 = .ok (.aload_n 0, 1) := by decide +kernel
theorem dX7_init_47 : decode cX7_init 47 = .ok (.bipush 60, 2) := by decide +kernel
theorem dX7_init_49 : decode cX7_init 49 = .ok (.newarray .int, 2) := by decide +kernel
theorem dX7_init_51 : decode cX7_init 51 = .ok (.putfield 25, 3) := by decide +kernel
theorem dX7_init_54 : decode cX7_init 54 = .ok (.aload_n 0, 1) := by decide +kernel
theorem dX7_init_55 : decode cX7_init 55 = .ok (.bipush 60, 2) := by decide +kernel
theorem dX7_init_57 : decode cX7_init 57 = .ok (.newarray .boolean, 2) := by decide +kernel
theorem dX7_init_59 : decode cX7_init 59 = .ok (.putfield 28, 3) := by decide +kernel
theorem dX7_init_62 : decode cX7_init 62 = .ok (.aload_n 0, 1) := by decide +kernel
theorem dX7_init_63 : decode cX7_init 63 = .ok (.bipush 60, 2) := by decide +kernel
theorem dX7_init_65 : decode cX7_init 65 = .ok (.newarray .int, 2) := by decide +kernel
theorem dX7_init_67 : decode cX7_init 67 = .ok (.putfield 32, 3) := by decide +kernel
theorem dX7_init_70 : decode cX7_init 70 = .ok (.aload_n 0, 1) := by decide +kernel
theorem dX7_init_71 : decode cX7_init 71 = .ok (.bipush 60, 2) := by decide +kernel
theorem dX7_init_73 : decode cX7_init 73 = .ok (.newarray .int, 2) := by decide +kernel
theorem dX7_init_75 : decode cX7_init 75 = .ok (.putfield 35, 3) := by decide +kernel
theorem dX7_init_78 : decode cX7_init 78 = .ok (.aload_n 0, 1) := by decide +kernel
theorem dX7_init_79 : decode cX7_init 79 = .ok (.sipush 180, 3) := by decide +kernel
theorem dX7_init_82 : decode cX7_init 82 = .ok (.newarray .int, 2) := by decide +kernel
theorem dX7_init_84 : decode cX7_init 84 = .ok (.putfield 38, 3) := by decide +kernel
theorem dX7_init_87 : decode cX7_init 87 = .ok (.aload_n 0, 1) := by decide +kernel
theorem dX7_init_88 : decode cX7_init 88 = .ok (.sipush 180, 3) := by decide +kernel
theorem dX7_init_91 : decode cX7_init 91 = .ok (.newarray .int, 2) := by decide +kernel
theorem dX7_init_93 : decode cX7_init 93 = .ok (.putfield 41, 3) := by decide +kernel
theorem dX7_init_96 : decode cX7_init 96 = .ok (.aload_n 0, 1) := by decide +kernel
theorem dX7_init_97 : decode cX7_init 97 = .ok (.sipush 180, 3) := by decide +kernel
theorem dX7_init_100 : decode cX7_init 100 = .ok (.newarray .int, 2) := by decide +kernel
theorem dX7_init_102 : decode cX7_init 102 = .ok (.putfield 44, 3) := by decide +kernel
theorem dX7_init_105 : decode cX7_init 105 = .ok (.aload_n 0, 1) := by decide +kernel
theorem dX7_init_106 : decode cX7_init 106 = .ok (.sipush 720, 3) := by decide +kernel
theorem dX7_init_109 : decode cX7_init 109 = .ok (.newarray .int, 2) := by decide +kernel
theorem dX7_init_111 : decode cX7_init 111 = .ok (.putfield 47, 3) := by decide +kernel
theorem dX7_init_114 : decode cX7_init 114 = .ok (.aload_n 0, 1) := by decide +kernel
theorem dX7_init_115 : decode cX7_init 115 = .ok (.sipush 180, 3) := by decide +kernel
theorem dX7_init_118 : decode cX7_init 118 = .ok (.newarray .int, 2) := by decide +kernel
theorem dX7_init_120 : decode cX7_init 120 = .ok (.putfield 50, 3) := by decide +kernel
theorem dX7_init_123 : decode cX7_init 123 = .ok (.aload_n 0, 1) := by decide +kernel
theorem dX7_init_124 : decode cX7_init 124 = .ok (.sipush 200, 3) := by decide +kernel
theorem dX7_init_127 : decode cX7_init 127 = .ok (.newarray .int, 2) := by decide +kernel
theorem dX7_init_129 : decode cX7_init 129 = .ok (.putfield 53, 3) := by decide +kernel
theorem dX7_init_132 : decode cX7_init 132 = .ok (.aload_n 0, 1) := by decide +kernel
theorem dX7_init_133 : decode cX7_init 133 = .ok (.sipush 800, 3) := by decide +kernel
theorem dX7_init_136 : decode cX7_init 136 = .ok (.newarray .int, 2) := by decide +kernel
theorem dX7_init_138 : decode cX7_init 138 = .ok (.putfield 56, 3) := by decide +kernel
theorem dX7_init_141 : decode cX7_init 141 = .ok (.aload_n 0, 1) := by decide +kernel
theorem dX7_init_142 : decode cX7_init 142 = .ok (.sipush 12000, 3) := by decide +kernel
theorem dX7_init_145 : decode cX7_init 145 = .ok (.newarray .int, 2) := by decide +kernel
theorem dX7_init_147 : decode cX7_init 147 = .ok (.putfield 59, 3) := by decide +kernel
theorem dX7_init_150 : decode cX7_init 150 = .ok (.aload_n 0, 1) := by decide +kernel
theorem dX7_init_151 : decode cX7_init 151 = .ok (.sipush 200, 3) := by decide +kernel
theorem dX7_init_154 : decode cX7_init 154 = .ok (.newarray .boolean, 2) := by decide +kernel
theorem dX7_init_156 : decode cX7_init 156 = .ok (.putfield 62, 3) := by decide +kernel
end
section
theorem dX7_init_159 : decode cX7_init 159 = .ok (.aload_n 0, 1) := by decide +kernel
theorem dX7_init_160 : decode cX7_init 160 = .ok (.sipush 200, 3) := by decide +kernel
theorem dX7_init_163 : decode cX7_init 163 = .ok (.newarray .boolean, 2) := by decide +kernel
theorem dX7_init_165 : decode cX7_init 165 = .ok (.putfield 65, 3) := by decide +kernel
theorem dX7_init_168 : decode cX7_init 168 = .ok (.aload_n 0, 1) := by decide +kernel
theorem dX7_init_169 : decode cX7_init 169 = .ok (.bipush 6, 2) := by decide +kernel
theorem dX7_init_171 : decode cX7_init 171 = .ok (.newarray .boolean, 2) := by decide +kernel
theorem dX7_init_173 : decode cX7_init 173 = .ok (.putfield 68, 3) := by decide +kernel
theorem dX7_init_176 : decode cX7_init 176 = .ok (.aload_n 0, 1) := by decide +kernel
theorem dX7_init_177 : decode cX7_init 177 = .ok (.bipush 6, 2) := by decide +kernel
theorem dX7_init_179 : decode cX7_init 179 = .ok (.newarray .int, 2) := by decide +kernel
theorem dX7_init_181 : decode cX7_init 181 = .ok (.putfield 71, 3) := by decide +kernel
theorem dX7_init_184 : decode cX7_init 184 = .ok (.aload_n 0, 1) := by decide +kernel
theorem dX7_init_185 : decode cX7_init 185 = .ok (.bipush 6, 2) := by decide +kernel
theorem dX7_init_187 : decode cX7_init 187 = .ok (.newarray .int, 2) := by decide +kernel
theorem dX7_init_189 : decode cX7_init 189 = .ok (.putfield 74, 3) := by decide +kernel
theorem dX7_init_192 : decode cX7_init 192 = .ok (.aload_n 0, 1) := by decide +kernel
theorem dX7_init_193 : decode cX7_init 193 = .ok (.bipush 6, 2) := by decide +kernel
theorem dX7_init_195 : decode cX7_init 195 = .ok (.newarray .int, 2) := by decide +kernel
theorem dX7_init_197 : decode cX7_init 197 = .ok (.putfield 77, 3) := by decide +kernel
theorem dX7_init_200 : decode cX7_init 200 = .ok (.aload_n 0, 1) := by decide +kernel
theorem dX7_init_201 : decode cX7_init 201 = .ok (.bipush 6, 2) := by decide +kernel
theorem dX7_init_203 : decode cX7_init 203 = .ok (.newarray .int, 2) := by decide +kernel
theorem dX7_init_205 : decode cX7_init 205 = .ok (.putfield 80, 3) := by decide +kernel
theorem dX7_init_208 : decode cX7_init 208 = .ok (.aload_n 0, 1) := by decide +kernel
theorem dX7_init_209 : decode cX7_init 209 = .ok (.sipush 144, 3) := by decide +kernel
theorem dX7_init_212 : decode cX7_init 212 = .ok (.newarray .int, 2) := by decide +kernel
theorem dX7_init_214 : decode cX7_init 214 = .ok (.putfield 83, 3) := by decide +kernel
theorem dX7_init_217 : decode cX7_init 217 = .ok (.aload_n 0, 1) := by decide +kernel
theorem dX7_init_218 : decode cX7_init 218 = .ok (.bipush 6, 2) := by decide +kernel
theorem dX7_init_220 : decode cX7_init 220 = .ok (.newarray .int, 2) := by decide +kernel
theorem dX7_init_222 : decode cX7_init 222 = .ok (.putfield 86, 3) := by decide +kernel
theorem dX7_init_225 : decode cX7_init 225 = .ok (.aload_n 0, 1) := by decide +kernel
theorem dX7_init_226 : decode cX7_init 226 = .ok (.bipush 6, 2) := by decide +kernel
theorem dX7_init_228 : decode cX7_init 228 = .ok (.newarray .int, 2) := by decide +kernel
theorem dX7_init_230 : decode cX7_init 230 = .ok (.putfield 89, 3) := by decide +kernel
theorem dX7_init_233 : decode cX7_init 233 = .ok (.iconst 0, 1) := by decide +kernel
theorem dX7_init_234 : decode cX7_init 234 = .ok (.istore_n 1, 1) := by decide +kernel
theorem dX7_init_235 : decode cX7_init 235 = .ok (.iload_n 1, 1) := by decide +kernel
theorem dX7_init_236 : decode cX7_init 236 = .ok (.sipush 3650, 3) := by decide +kernel
theorem dX7_init_239 : decode cX7_init 239 = .ok (.if_icmp .ge 16, 3) := by decide +kernel
theorem dX7_init_242 : decode cX7_init 242 = .ok (.aload_n 0, 1) := by decide +kernel
theorem dX7_init_243 : decode cX7_init 243 = .ok (.getfield 9, 3) := by decide +kernel
theorem dX7_init_246 : decode cX7_init 246 = .ok (.iload_n 1, 1) := by decide +kernel
theorem dX7_init_247 : decode cX7_init 247 = .ok (.iconst 5, 1) := by decide +kernel
theorem dX7_init_248 : decode cX7_init 248 = .ok (.iastore, 1) := by decide +kernel
theorem dX7_init_249 : decode cX7_init 249 = .ok (.iinc 1 1, 3) := by decide +kernel
theorem dX7_init_252 : decode cX7_init 252 = .ok (.goto (-17), 3) := by decide +kernel
theorem dX7_init_255 : decode cX7_init 255 = .ok (.return_, 1) := by decide +kernel
theorem dX7_in_0 : decode cX7_in 0 = .ok (.iload_n 0, 1) := by decide +kernel
theorem dX7_in_1 : decode cX7_in 1 = .ok (.iload_n 1, 1) := by decide +kernel
theorem dX7_in_2 : decode cX7_in 2 = .ok (.if_icmp .lt 12, 3) := by decide +kernel
theorem dX7_in_5 : decode cX7_in 5 = .ok (.iload_n 0, 1) := by decide +kernel
theorem dX7_in_6 : decode cX7_in 6 = .ok (.iload_n 2, 1) := by decide +kernel
theorem dX7_in_7 : decode cX7_in 7 = .ok (.if_icmp .gt 7, 3) := by decide +kernel
theorem dX7_in_10 : decode cX7_in 10 = .ok (.iconst 1, 1) := by decide +kernel
theorem dX7_in_11 : decode cX7_in 11 = .ok (.goto 4, 3) := by decide +kernel
theorem dX7_in_14 : decode cX7_in 14 = .ok (.iconst 0, 1) := by decide +kernel
theorem dX7_in_15 : decode cX7_in 15 = .ok (.ireturn, 1) := by decide +kernel
set_option maxRecDepth 20000 in
theorem ggX7_isTree_X7_in : GoodIn wsX7_isTree wsX7_in := goodIn_r _ [5] (by decide +kernel) (by decide +kernel)
set_option maxRecDepth 20000 in
theorem gX7_isTree_X7_in : GoodIn wsX7_isTree (va_wsS RX7 96 yX7_in wsX7_in) := goodIn_app (goodIn_of _ (by decide +kernel)) ggX7_isTree_X7_in
theorem dX7_isTree_0 : decode cX7_isTree 0 = .ok (.iload_n 1, 1) := by decide +kernel
theorem dX7_isTree_1 : decode cX7_isTree 1 = .ok (.iconst 0, 1) := by decide +kernel
theorem dX7_isTree_2 : decode cX7_isTree 2 = .ok (.aload_n 0, 1) := by decide +kernel
theorem dX7_isTree_3 : decode cX7_isTree 3 = .ok (.getfield 92, 3) := by decide +kernel
theorem dX7_isTree_6 : decode cX7_isTree 6 = .ok (.iconst 1, 1) := by decide +kernel
theorem dX7_isTree_7 : decode cX7_isTree 7 = .ok (.isub, 1) := by decide +kernel
theorem dX7_isTree_8 : decode cX7_isTree 8 = .ok (.invokestatic 96, 3) := by decide +kernel
theorem dX7_isTree_11 : decode cX7_isTree 11 = .ok (.ireturn, 1) := by decide +kernel
set_option maxRecDepth 20000 in
theorem ggX7_tree_X7_in : GoodIn wsX7_tree wsX7_in := goodIn_r _ [9] (by decide +kernel) (by decide +kernel)
set_option maxRecDepth 20000 in
theorem gX7_tree_X7_in : GoodIn wsX7_tree (va_wsS RX7 96 yX7_in wsX7_in) := goodIn_app (goodIn_of _ (by decide +kernel)) ggX7_tree_X7_in
theorem dX7_tree_0 : decode cX7_tree 0 = .ok (.iload_n 1, 1) := by decide +kernel
theorem dX7_tree_1 : decode cX7_tree 1 = .ok (.iconst 0, 1) := by decide +kernel
theorem dX7_tree_2 : decode cX7_tree 2 = .ok (.iconst 5, 1) := by decide +kernel
theorem dX7_tree_3 : decode cX7_tree 3 = .ok (.invokestatic 96, 3) := by decide +kernel
theorem dX7_tree_6 : decode cX7_tree 6 = .ok (.ifCond .eq 35, 3) := by decide +kernel
theorem dX7_tree_9 : decode cX7_tree 9 = .ok (.iload_n 2, 1) := by decide +kernel
theorem dX7_tree_10 : decode cX7_tree 10 = .ok (.iconst 0, 1) := by decide +kernel
theorem dX7_tree_11 : decode cX7_tree 11 = .ok (.sipush 9999, 3) := by decide +kernel
theorem dX7_tree_14 : decode cX7_tree 14 = .ok (.invokestatic 96, 3) := by decide +kernel
theorem dX7_tree_17 : decode cX7_tree 17 = .ok (.ifCond .eq 24, 3) := by decide +kernel
theorem dX7_tree_20 : decode cX7_tree 20 = .ok (.iload_n 3, 1) := by decide +kernel
theorem dX7_tree_21 : decode cX7_tree 21 = .ok (.bipush 20, 2) := by decide +kernel
theorem dX7_tree_23 : decode cX7_tree 23 = .ok (.sipush 400, 3) := by decide +kernel
theorem dX7_tree_26 : decode cX7_tree 26 = .ok (.invokestatic 96, 3) := by decide +kernel
theorem dX7_tree_29 : decode cX7_tree 29 = .ok (.ifCond .eq 12, 3) := by decide +kernel
theorem dX7_tree_32 : decode cX7_tree 32 = .ok (.aload_n 0, 1) := by decide +kernel
theorem dX7_tree_33 : decode cX7_tree 33 = .ok (.getfield 92, 3) := by decide +kernel
theorem dX7_tree_36 : decode cX7_tree 36 = .ok (.bipush 60, 2) := by decide +kernel
theorem dX7_tree_38 : decode cX7_tree 38 = .ok (.if_icmp .ne 5, 3) := by decide +kernel
theorem dX7_tree_41 : decode cX7_tree 41 = .ok (.iconst (-1), 1) := by decide +kernel
theorem dX7_tree_42 : decode cX7_tree 42 = .ok (.ireturn, 1) := by decide +kernel
theorem dX7_tree_43 : decode cX7_tree 43 = .ok (.aload_n 0, 1) := by decide +kernel
theorem dX7_tree_44 : decode cX7_tree 44 = .ok (.getfield 16, 3) := by decide +kernel
theorem dX7_tree_47 : decode cX7_tree 47 = .ok (.aload_n 0, 1) := by decide +kernel
theorem dX7_tree_48 : decode cX7_tree 48 = .ok (.getfield 92, 3) := by decide +kernel
theorem dX7_tree_51 : decode cX7_tree 51 = .ok (.iload_n 1, 1) := by decide +kernel
theorem dX7_tree_52 : decode cX7_tree 52 = .ok (.iastore, 1) := by decide +kernel
theorem dX7_tree_53 : decode cX7_tree 53 = .ok (.aload_n 0, 1) := by decide +kernel
theorem dX7_tree_54 : decode cX7_tree 54 = .ok (.getfield 19, 3) := by decide +kernel
theorem dX7_tree_57 : decode cX7_tree 57 = .ok (.aload_n 0, 1) := by decide +kernel
theorem dX7_tree_58 : decode cX7_tree 58 = .ok (.getfield 92, 3) := by decide +kernel
theorem dX7_tree_61 : decode cX7_tree 61 = .ok (.iload_n 2, 1) := by decide +kernel
theorem dX7_tree_62 : decode cX7_tree 62 = .ok (.bipush 100, 2) := by decide +kernel
theorem dX7_tree_64 : decode cX7_tree 64 = .ok (.idiv, 1) := by decide +kernel
theorem dX7_tree_65 : decode cX7_tree 65 = .ok (.iastore, 1) := by decide +kernel
theorem dX7_tree_66 : decode cX7_tree 66 = .ok (.aload_n 0, 1) := by decide +kernel
theorem dX7_tree_67 : decode cX7_tree 67 = .ok (.getfield 22, 3) := by decide +kernel
theorem dX7_tree_70 : decode cX7_tree 70 = .ok (.aload_n 0, 1) := by decide +kernel
theorem dX7_tree_71 : decode cX7_tree 71 = .ok (.getfield 92, 3) := by decide +kernel
theorem dX7_tree_74 : decode cX7_tree 74 = .ok (.iload_n 2, 1) := by decide +kernel
theorem dX7_tree_75 : decode cX7_tree 75 = .ok (.bipush 100, 2) := by decide +kernel
theorem dX7_tree_77 : decode cX7_tree 77 = .ok (.irem, 1) := by decide +kernel
theorem dX7_tree_78 : decode cX7_tree 78 = .ok (.iastore, 1) := by decide +kernel
theorem dX7_tree_79 : decode cX7_tree 79 = .ok (.aload_n 0, 1) := by decide +kernel
theorem dX7_tree_80 : decode cX7_tree 80 = .ok (.getfield 25, 3) := by decide +kernel
theorem dX7_tree_83 : decode cX7_tree 83 = .ok (.aload_n 0, 1) := by decide +kernel
theorem dX7_tree_84 : decode cX7_tree 84 = .ok (.getfield 92, 3) := by decide +kernel
theorem dX7_tree_87 : decode cX7_tree 87 = .ok (.iload_n 3, 1) := by decide +kernel
theorem dX7_tree_88 : decode cX7_tree 88 = .ok (.iastore, 1) := by decide +kernel
theorem dX7_tree_89 : decode cX7_tree 89 = .ok (.aload_n 0, 1) := by decide +kernel
theorem dX7_tree_90 : decode cX7_tree 90 = .ok (.dup, 1) := by decide +kernel
theorem dX7_tree_91 : decode cX7_tree 91 = .ok (.getfield 92, 3) := by decide +kernel
theorem dX7_tree_94 : decode cX7_tree 94 = .ok (.iconst 1, 1) := by decide +kernel
theorem dX7_tree_95 : decode cX7_tree 95 = .ok (.iadd, 1) := by decide +kernel
theorem dX7_tree_96 : decode cX7_tree 96 = .ok (.putfield 92, 3) := by decide +kernel
theorem dX7_tree_99 : decode cX7_tree 99 = .ok (.aload_n 0, 1) := by decide +kernel
theorem dX7_tree_100 : decode cX7_tree 100 = .ok (.getfield 92, 3) := by decide +kernel
theorem dX7_tree_103 : decode cX7_tree 103 = .ok (.iconst 1, 1) := by decide +kernel
theorem dX7_tree_104 : decode cX7_tree 104 = .ok (.isub, 1) := by decide +kernel
theorem dX7_tree_105 : decode cX7_tree 105 = .ok (.ireturn, 1) := by decide +kernel
set_option maxRecDepth 20000 in
theorem ggX7_bears_X7_in : GoodIn wsX7_bears wsX7_in := goodIn_r _ [4] (by decide +kernel) (by decide +kernel)
set_option maxRecDepth 20000 in
theorem gX7_bears_X7_in : GoodIn wsX7_bears (va_wsS RX7 96 yX7_in wsX7_in) := goodIn_app (goodIn_of _ (by decide +kernel)) ggX7_bears_X7_in
theorem dX7_bears_0 : decode cX7_bears 0 = .ok (.iload_n 1, 1) := by decide +kernel
theorem dX7_bears_1 : decode cX7_bears 1 = .ok (.bipush 20, 2) := by decide +kernel
theorem dX7_bears_3 : decode cX7_bears 3 = .ok (.sipush 400, 3) := by decide +kernel
theorem dX7_bears_6 : decode cX7_bears 6 = .ok (.invokestatic 96, 3) := by decide +kernel
theorem dX7_bears_9 : decode cX7_bears 9 = .ok (.ifCond .ne 5, 3) := by decide +kernel
theorem dX7_bears_12 : decode cX7_bears 12 = .ok (.iconst (-1), 1) := by decide +kernel
theorem dX7_bears_13 : decode cX7_bears 13 = .ok (.ireturn, 1) := by decide +kernel
theorem dX7_bears_14 : decode cX7_bears 14 = .ok (.iload_n 1, 1) := by decide +kernel
theorem dX7_bears_15 : decode cX7_bears 15 = .ok (.bipush 80, 2) := by decide +kernel
theorem dX7_bears_17 : decode cX7_bears 17 = .ok (.if_icmp .ge 7, 3) := by decide +kernel
theorem dX7_bears_20 : decode cX7_bears 20 = .ok (.iconst 0, 1) := by decide +kernel
theorem dX7_bears_21 : decode cX7_bears 21 = .ok (.goto 26, 3) := by decide +kernel
theorem dX7_bears_24 : decode cX7_bears 24 = .ok (.iload_n 1, 1) := by decide +kernel
theorem dX7_bears_25 : decode cX7_bears 25 = .ok (.sipush 150, 3) := by decide +kernel
theorem dX7_bears_28 : decode cX7_bears 28 = .ok (.if_icmp .ge 7, 3) := by decide +kernel
theorem dX7_bears_31 : decode cX7_bears 31 = .ok (.iconst 1, 1) := by decide +kernel
theorem dX7_bears_32 : decode cX7_bears 32 = .ok (.goto 15, 3) := by decide +kernel
theorem dX7_bears_35 : decode cX7_bears 35 = .ok (.iload_n 1, 1) := by decide +kernel
theorem dX7_bears_36 : decode cX7_bears 36 = .ok (.sipush 220, 3) := by decide +kernel
theorem dX7_bears_39 : decode cX7_bears 39 = .ok (.if_icmp .ge 7, 3) := by decide +kernel
theorem dX7_bears_42 : decode cX7_bears 42 = .ok (.iconst 2, 1) := by decide +kernel
theorem dX7_bears_43 : decode cX7_bears 43 = .ok (.goto 4, 3) := by decide +kernel
theorem dX7_bears_46 : decode cX7_bears 46 = .ok (.iconst 3, 1) := by decide +kernel
theorem dX7_bears_47 : decode cX7_bears 47 = .ok (.ireturn, 1) := by decide +kernel
set_option maxRecDepth 20000 in
theorem ggX7_weather_X7_in : GoodIn wsX7_weather wsX7_in := goodIn_r _ [7] (by decide +kernel) (by decide +kernel)
set_option maxRecDepth 20000 in
theorem gX7_weather_X7_in : GoodIn wsX7_weather (va_wsS RX7 96 yX7_in wsX7_in) := goodIn_app (goodIn_of _ (by decide +kernel)) ggX7_weather_X7_in
theorem dX7_weather_0 : decode cX7_weather 0 = .ok (.iload_n 1, 1) := by decide +kernel
theorem dX7_weather_1 : decode cX7_weather 1 = .ok (.aload_n 0, 1) := by decide +kernel
theorem dX7_weather_2 : decode cX7_weather 2 = .ok (.getfield 100, 3) := by decide +kernel
theorem dX7_weather_5 : decode cX7_weather 5 = .ok (.sipush 3649, 3) := by decide +kernel
theorem dX7_weather_8 : decode cX7_weather 8 = .ok (.invokestatic 96, 3) := by decide +kernel
theorem dX7_weather_11 : decode cX7_weather 11 = .ok (.ifCond .eq 35, 3) := by decide +kernel
theorem dX7_weather_14 : decode cX7_weather 14 = .ok (.iload_n 2, 1) := by decide +kernel
theorem dX7_weather_15 : decode cX7_weather 15 = .ok (.iload_n 1, 1) := by decide +kernel
theorem dX7_weather_16 : decode cX7_weather 16 = .ok (.sipush 3649, 3) := by decide +kernel
theorem dX7_weather_19 : decode cX7_weather 19 = .ok (.invokestatic 96, 3) := by decide +kernel
theorem dX7_weather_22 : decode cX7_weather 22 = .ok (.ifCond .eq 24, 3) := by decide +kernel
theorem dX7_weather_25 : decode cX7_weather 25 = .ok (.iload_n 3, 1) := by decide +kernel
theorem dX7_weather_26 : decode cX7_weather 26 = .ok (.iconst 0, 1) := by decide +kernel
theorem dX7_weather_27 : decode cX7_weather 27 = .ok (.bipush 9, 2) := by decide +kernel
theorem dX7_weather_29 : decode cX7_weather 29 = .ok (.invokestatic 96, 3) := by decide +kernel
theorem dX7_weather_32 : decode cX7_weather 32 = .ok (.ifCond .eq 14, 3) := by decide +kernel
theorem dX7_weather_35 : decode cX7_weather 35 = .ok (.iload 4, 2) := by decide +kernel
theorem dX7_weather_37 : decode cX7_weather 37 = .ok (.iconst 0, 1) := by decide +kernel
theorem dX7_weather_38 : decode cX7_weather 38 = .ok (.bipush 9, 2) := by decide +kernel
theorem dX7_weather_40 : decode cX7_weather 40 = .ok (.invokestatic 96, 3) := by decide +kernel
theorem dX7_weather_43 : decode cX7_weather 43 = .ok (.ifCond .ne 5, 3) := by decide +kernel
theorem dX7_weather_46 : decode cX7_weather 46 = .ok (.iconst 0, 1) := by decide +kernel
theorem dX7_weather_47 : decode cX7_weather 47 = .ok (.ireturn, 1) := by decide +kernel
theorem dX7_weather_48 : decode cX7_weather 48 = .ok (.iload_n 1, 1) := by decide +kernel
theorem dX7_weather_49 : decode cX7_weather 49 = .ok (.istore 5, 2) := by decide +kernel
theorem dX7_weather_51 : decode cX7_weather 51 = .ok (.iload 5, 2) := by decide +kernel
theorem dX7_weather_53 : decode cX7_weather 53 = .ok (.iload_n 2, 1) := by decide +kernel
theorem dX7_weather_54 : decode cX7_weather 54 = .ok (.if_icmp .gt 26, 3) := by decide +kernel
theorem dX7_weather_57 : decode cX7_weather 57 = .ok (.aload_n 0, 1) := by decide +kernel
theorem dX7_weather_58 : decode cX7_weather 58 = .ok (.getfield 9, 3) := by decide +kernel
theorem dX7_weather_61 : decode cX7_weather 61 = .ok (.iload 5, 2) := by decide +kernel
theorem dX7_weather_63 : decode cX7_weather 63 = .ok (.iload_n 3, 1) := by decide +kernel
theorem dX7_weather_64 : decode cX7_weather 64 = .ok (.iastore, 1) := by decide +kernel
theorem dX7_weather_65 : decode cX7_weather 65 = .ok (.aload_n 0, 1) := by decide +kernel
theorem dX7_weather_66 : decode cX7_weather 66 = .ok (.getfield 13, 3) := by decide +kernel
theorem dX7_weather_69 : decode cX7_weather 69 = .ok (.iload 5, 2) := by decide +kernel
theorem dX7_weather_71 : decode cX7_weather 71 = .ok (.iload 4, 2) := by decide +kernel
theorem dX7_weather_73 : decode cX7_weather 73 = .ok (.iastore, 1) := by decide +kernel
theorem dX7_weather_74 : decode cX7_weather 74 = .ok (.iinc 5 1, 3) := by decide +kernel
theorem dX7_weather_77 : decode cX7_weather 77 = .ok (.goto (-26), 3) := by decide +kernel
theorem dX7_weather_80 : decode cX7_weather 80 = .ok (.iconst 1, 1) := by decide +kernel
theorem dX7_weather_81 : decode cX7_weather 81 = .ok (.ireturn, 1) := by decide +kernel
set_option maxRecDepth 20000 in
theorem ggX7_cut_X7_isTree : GoodIn wsX7_cut wsX7_isTree := goodIn_r _ [13, 14, 15, 16, 12, 17, 26, 27, 28, 29, 30, 31, 32, 33, 34, 35, 36, 37, 38, 39, 40, 41, 42, 43, 44, 45, 46, 47, 48, 49, 50, 51, 52, 53, 54, 55, 56, 57, 58, 59, 60, 61, 62, 63, 64] (by decide +kernel) (by decide +kernel)
set_option maxRecDepth 20000 in
theorem gX7_cut_X7_isTree : GoodIn wsX7_cut (wsV RX7 103 RX7 yX7_isTree wsX7_isTree) := goodIn_app (goodIn_of _ (by decide +kernel)) ggX7_cut_X7_isTree
set_option maxRecDepth 20000 in
theorem ggX7_cut_X7_rests : GoodIn wsX7_cut wsX7_rests := goodIn_r _ [21, 4, 8, 9, 10, 11, 12, 13, 14, 15, 16, 17, 26, 27, 28, 29, 30, 31, 32, 33, 34, 35, 36, 37, 38, 39, 40, 41, 42, 43, 44, 45, 46, 47, 48, 49, 50, 51, 52, 53, 54, 55, 56, 57, 58, 59, 60, 61, 62, 63, 64] (by decide +kernel) (by decide +kernel)
set_option maxRecDepth 20000 in
theorem gX7_cut_X7_rests : GoodIn wsX7_cut (wsV RX7 107 RX7 yX7_rests wsX7_rests) := goodIn_app (goodIn_of _ (by decide +kernel)) ggX7_cut_X7_rests
set_option maxRecDepth 20000 in
theorem ggX7_cut_X7_in : GoodIn wsX7_cut wsX7_in := goodIn_r _ [17] (by decide +kernel) (by decide +kernel)
set_option maxRecDepth 20000 in
theorem gX7_cut_X7_in : GoodIn wsX7_cut (va_wsS RX7 96 yX7_in wsX7_in) := goodIn_app (goodIn_of _ (by decide +kernel)) ggX7_cut_X7_in
set_option maxRecDepth 20000 in
theorem ggX7_cut_X7_bears : GoodIn wsX7_cut wsX7_bears := goodIn_r _ [25, 15, 16, 12, 17] (by decide +kernel) (by decide +kernel)
set_option maxRecDepth 20000 in
theorem gX7_cut_X7_bears : GoodIn wsX7_cut (wsV RX7 110 RX7 yX7_bears wsX7_bears) := goodIn_app (goodIn_of _ (by decide +kernel)) ggX7_cut_X7_bears
theorem dX7_cut_0 : decode cX7_cut 0 = .ok (.aload_n 0, 1) := by decide +kernel
theorem dX7_cut_1 : decode cX7_cut 1 = .ok (.iload_n 1, 1) := by decide +kernel
theorem dX7_cut_2 : decode cX7_cut 2 = .ok (.invokevirtual 103, 3) := by decide +kernel
theorem dX7_cut_5 : decode cX7_cut 5 = .ok (.ifCond .eq 48, 3) := by decide +kernel
theorem dX7_cut_8 : decode cX7_cut 8 = .ok (.aload_n 0, 1) := by decide +kernel
theorem dX7_cut_9 : decode cX7_cut 9 = .ok (.getfield 28, 3) := by decide +kernel
theorem dX7_cut_12 : decode cX7_cut 12 = .ok (.iload_n 1, 1) := by decide +kernel
theorem dX7_cut_13 : decode cX7_cut 13 = .ok (.baload, 1) := by decide +kernel
theorem dX7_cut_14 : decode cX7_cut 14 = .ok (.ifCond .ne 39, 3) := by decide +kernel
theorem dX7_cut_17 : decode cX7_cut 17 = .ok (.aload_n 0, 1) := by decide +kernel
theorem dX7_cut_18 : decode cX7_cut 18 = .ok (.iload_n 1, 1) := by decide +kernel
theorem dX7_cut_19 : decode cX7_cut 19 = .ok (.invokevirtual 107, 3) := by decide +kernel
theorem dX7_cut_22 : decode cX7_cut 22 = .ok (.ifCond .ne 31, 3) := by decide +kernel
theorem dX7_cut_25 : decode cX7_cut 25 = .ok (.iload_n 2, 1) := by decide +kernel
theorem dX7_cut_26 : decode cX7_cut 26 = .ok (.iconst 0, 1) := by decide +kernel
theorem dX7_cut_27 : decode cX7_cut 27 = .ok (.aload_n 0, 1) := by decide +kernel
theorem dX7_cut_28 : decode cX7_cut 28 = .ok (.getfield 32, 3) := by decide +kernel
theorem dX7_cut_31 : decode cX7_cut 31 = .ok (.iload_n 1, 1) := by decide +kernel
theorem dX7_cut_32 : decode cX7_cut 32 = .ok (.iaload, 1) := by decide +kernel
theorem dX7_cut_33 : decode cX7_cut 33 = .ok (.invokestatic 96, 3) := by decide +kernel
theorem dX7_cut_36 : decode cX7_cut 36 = .ok (.ifCond .eq 17, 3) := by decide +kernel
theorem dX7_cut_39 : decode cX7_cut 39 = .ok (.iload_n 2, 1) := by decide +kernel
theorem dX7_cut_40 : decode cX7_cut 40 = .ok (.aload_n 0, 1) := by decide +kernel
theorem dX7_cut_41 : decode cX7_cut 41 = .ok (.aload_n 0, 1) := by decide +kernel
theorem dX7_cut_42 : decode cX7_cut 42 = .ok (.getfield 25, 3) := by decide +kernel
theorem dX7_cut_45 : decode cX7_cut 45 = .ok (.iload_n 1, 1) := by decide +kernel
theorem dX7_cut_46 : decode cX7_cut 46 = .ok (.iaload, 1) := by decide +kernel
theorem dX7_cut_47 : decode cX7_cut 47 = .ok (.invokevirtual 110, 3) := by decide +kernel
theorem dX7_cut_50 : decode cX7_cut 50 = .ok (.if_icmp .lt 5, 3) := by decide +kernel
theorem dX7_cut_53 : decode cX7_cut 53 = .ok (.iconst (-1), 1) := by decide +kernel
theorem dX7_cut_54 : decode cX7_cut 54 = .ok (.ireturn, 1) := by decide +kernel
theorem dX7_cut_55 : decode cX7_cut 55 = .ok (.iconst 3, 1) := by decide +kernel
theorem dX7_cut_56 : decode cX7_cut 56 = .ok (.iload_n 1, 1) := by decide +kernel
theorem dX7_cut_57 : decode cX7_cut 57 = .ok (.imul, 1) := by decide +kernel
theorem dX7_cut_58 : decode cX7_cut 58 = .ok (.iload_n 2, 1) := by decide +kernel
theorem dX7_cut_59 : decode cX7_cut 59 = .ok (.iadd, 1) := by decide +kernel
theorem dX7_cut_60 : decode cX7_cut 60 = .ok (.istore_n 3, 1) := by decide +kernel
theorem dX7_cut_61 : decode cX7_cut 61 = .ok (.iload_n 2, 1) := by decide +kernel
theorem dX7_cut_62 : decode cX7_cut 62 = .ok (.aload_n 0, 1) := by decide +kernel
theorem dX7_cut_63 : decode cX7_cut 63 = .ok (.getfield 32, 3) := by decide +kernel
theorem dX7_cut_66 : decode cX7_cut 66 = .ok (.iload_n 1, 1) := by decide +kernel
theorem dX7_cut_67 : decode cX7_cut 67 = .ok (.iaload, 1) := by decide +kernel
theorem dX7_cut_68 : decode cX7_cut 68 = .ok (.if_icmp .ge 31, 3) := by decide +kernel
theorem dX7_cut_71 : decode cX7_cut 71 = .ok (.aload_n 0, 1) := by decide +kernel
theorem dX7_cut_72 : decode cX7_cut 72 = .ok (.getfield 100, 3) := by decide +kernel
theorem dX7_cut_75 : decode cX7_cut 75 = .ok (.aload_n 0, 1) := by decide +kernel
theorem dX7_cut_76 : decode cX7_cut 76 = .ok (.getfield 41, 3) := by decide +kernel
theorem dX7_cut_79 : decode cX7_cut 79 = .ok (.iload_n 3, 1) := by decide +kernel
theorem dX7_cut_80 : decode cX7_cut 80 = .ok (.iaload, 1) := by decide +kernel
theorem dX7_cut_81 : decode cX7_cut 81 = .ok (.isub, 1) := by decide +kernel
theorem dX7_cut_82 : decode cX7_cut 82 = .ok (.iconst 5, 1) := by decide +kernel
theorem dX7_cut_83 : decode cX7_cut 83 = .ok (.if_icmp .lt 14, 3) := by decide +kernel
theorem dX7_cut_86 : decode cX7_cut 86 = .ok (.aload_n 0, 1) := by decide +kernel
theorem dX7_cut_87 : decode cX7_cut 87 = .ok (.getfield 38, 3) := by decide +kernel
theorem dX7_cut_90 : decode cX7_cut 90 = .ok (.iload_n 3, 1) := by decide +kernel
theorem dX7_cut_91 : decode cX7_cut 91 = .ok (.iaload, 1) := by decide +kernel
theorem dX7_cut_92 : decode cX7_cut 92 = .ok (.bipush 40, 2) := by decide +kernel
theorem dX7_cut_94 : decode cX7_cut 94 = .ok (.if_icmp .ne 5, 3) := by decide +kernel
theorem dX7_cut_97 : decode cX7_cut 97 = .ok (.iconst (-1), 1) := by decide +kernel
theorem dX7_cut_98 : decode cX7_cut 98 = .ok (.ireturn, 1) := by decide +kernel
theorem dX7_cut_99 : decode cX7_cut 99 = .ok (.iload_n 2, 1) := by decide +kernel
theorem dX7_cut_100 : decode cX7_cut 100 = .ok (.aload_n 0, 1) := by decide +kernel
theorem dX7_cut_101 : decode cX7_cut 101 = .ok (.getfield 32, 3) := by decide +kernel
theorem dX7_cut_104 : decode cX7_cut 104 = .ok (.iload_n 1, 1) := by decide +kernel
theorem dX7_cut_105 : decode cX7_cut 105 = .ok (.iaload, 1) := by decide +kernel
theorem dX7_cut_106 : decode cX7_cut 106 = .ok (.if_icmp .ne 27, 3) := by decide +kernel
theorem dX7_cut_109 : decode cX7_cut 109 = .ok (.aload_n 0, 1) := by decide +kernel
theorem dX7_cut_110 : decode cX7_cut 110 = .ok (.getfield 32, 3) := by decide +kernel
theorem dX7_cut_113 : decode cX7_cut 113 = .ok (.iload_n 1, 1) := by decide +kernel
theorem dX7_cut_114 : decode cX7_cut 114 = .ok (.dup2, 1) := by decide +kernel
theorem dX7_cut_115 : decode cX7_cut 115 = .ok (.iaload, 1) := by decide +kernel
theorem dX7_cut_116 : decode cX7_cut 116 = .ok (.iconst 1, 1) := by decide +kernel
theorem dX7_cut_117 : decode cX7_cut 117 = .ok (.iadd, 1) := by decide +kernel
theorem dX7_cut_118 : decode cX7_cut 118 = .ok (.iastore, 1) := by decide +kernel
theorem dX7_cut_119 : decode cX7_cut 119 = .ok (.aload_n 0, 1) := by decide +kernel
theorem dX7_cut_120 : decode cX7_cut 120 = .ok (.getfield 44, 3) := by decide +kernel
theorem dX7_cut_123 : decode cX7_cut 123 = .ok (.iload_n 3, 1) := by decide +kernel
theorem dX7_cut_124 : decode cX7_cut 124 = .ok (.aload_n 0, 1) := by decide +kernel
theorem dX7_cut_125 : decode cX7_cut 125 = .ok (.getfield 100, 3) := by decide +kernel
theorem dX7_cut_128 : decode cX7_cut 128 = .ok (.sipush 365, 3) := by decide +kernel
theorem dX7_cut_131 : decode cX7_cut 131 = .ok (.idiv, 1) := by decide +kernel
theorem dX7_cut_132 : decode cX7_cut 132 = .ok (.iastore, 1) := by decide +kernel
theorem dX7_cut_133 : decode cX7_cut 133 = .ok (.aload_n 0, 1) := by decide +kernel
theorem dX7_cut_134 : decode cX7_cut 134 = .ok (.getfield 38, 3) := by decide +kernel
theorem dX7_cut_137 : decode cX7_cut 137 = .ok (.iload_n 3, 1) := by decide +kernel
theorem dX7_cut_138 : decode cX7_cut 138 = .ok (.dup2, 1) := by decide +kernel
theorem dX7_cut_139 : decode cX7_cut 139 = .ok (.iaload, 1) := by decide +kernel
theorem dX7_cut_140 : decode cX7_cut 140 = .ok (.iconst 1, 1) := by decide +kernel
theorem dX7_cut_141 : decode cX7_cut 141 = .ok (.iadd, 1) := by decide +kernel
theorem dX7_cut_142 : decode cX7_cut 142 = .ok (.iastore, 1) := by decide +kernel
theorem dX7_cut_143 : decode cX7_cut 143 = .ok (.aload_n 0, 1) := by decide +kernel
theorem dX7_cut_144 : decode cX7_cut 144 = .ok (.getfield 41, 3) := by decide +kernel
theorem dX7_cut_147 : decode cX7_cut 147 = .ok (.iload_n 3, 1) := by decide +kernel
theorem dX7_cut_148 : decode cX7_cut 148 = .ok (.aload_n 0, 1) := by decide +kernel
theorem dX7_cut_149 : decode cX7_cut 149 = .ok (.getfield 100, 3) := by decide +kernel
theorem dX7_cut_152 : decode cX7_cut 152 = .ok (.iastore, 1) := by decide +kernel
theorem dX7_cut_153 : decode cX7_cut 153 = .ok (.aload_n 0, 1) := by decide +kernel
theorem dX7_cut_154 : decode cX7_cut 154 = .ok (.getfield 35, 3) := by decide +kernel
theorem dX7_cut_157 : decode cX7_cut 157 = .ok (.iload_n 1, 1) := by decide +kernel
theorem dX7_cut_158 : decode cX7_cut 158 = .ok (.dup2, 1) := by decide +kernel
theorem dX7_cut_159 : decode cX7_cut 159 = .ok (.iaload, 1) := by decide +kernel
theorem dX7_cut_160 : decode cX7_cut 160 = .ok (.iconst 1, 1) := by decide +kernel
theorem dX7_cut_161 : decode cX7_cut 161 = .ok (.aload_n 0, 1) := by decide +kernel
theorem dX7_cut_162 : decode cX7_cut 162 = .ok (.getfield 100, 3) := by decide +kernel
theorem dX7_cut_165 : decode cX7_cut 165 = .ok (.sipush 365, 3) := by decide +kernel
theorem dX7_cut_168 : decode cX7_cut 168 = .ok (.idiv, 1) := by decide +kernel
theorem dX7_cut_169 : decode cX7_cut 169 = .ok (.ishl, 1) := by decide +kernel
theorem dX7_cut_170 : decode cX7_cut 170 = .ok (.ior, 1) := by decide +kernel
theorem dX7_cut_171 : decode cX7_cut 171 = .ok (.iastore, 1) := by decide +kernel
theorem dX7_cut_172 : decode cX7_cut 172 = .ok (.aload_n 0, 1) := by decide +kernel
theorem dX7_cut_173 : decode cX7_cut 173 = .ok (.getfield 38, 3) := by decide +kernel
theorem dX7_cut_176 : decode cX7_cut 176 = .ok (.iload_n 3, 1) := by decide +kernel
theorem dX7_cut_177 : decode cX7_cut 177 = .ok (.iaload, 1) := by decide +kernel
theorem dX7_cut_178 : decode cX7_cut 178 = .ok (.ireturn, 1) := by decide +kernel
set_option maxRecDepth 20000 in
theorem ggX7_rests_X7_isTree : GoodIn wsX7_rests wsX7_isTree := goodIn_r _ [7, 8, 9, 10, 6, 11, 12, 13, 14, 15, 16, 17, 18, 19, 20, 21, 22, 23, 24, 25, 26, 27, 28, 29, 30, 31, 32, 33, 34, 35, 36, 37, 38, 39, 40, 41, 42, 43, 44, 45, 46, 47, 48, 49, 50] (by decide +kernel) (by decide +kernel)
set_option maxRecDepth 20000 in
theorem gX7_rests_X7_isTree : GoodIn wsX7_rests (wsV RX7 103 RX7 yX7_isTree wsX7_isTree) := goodIn_app (goodIn_of _ (by decide +kernel)) ggX7_rests_X7_isTree
theorem dX7_rests_0 : decode cX7_rests 0 = .ok (.aload_n 0, 1) := by decide +kernel
theorem dX7_rests_1 : decode cX7_rests 1 = .ok (.iload_n 1, 1) := by decide +kernel
theorem dX7_rests_2 : decode cX7_rests 2 = .ok (.invokevirtual 103, 3) := by decide +kernel
theorem dX7_rests_5 : decode cX7_rests 5 = .ok (.ifCond .ne 5, 3) := by decide +kernel
theorem dX7_rests_8 : decode cX7_rests 8 = .ok (.iconst 0, 1) := by decide +kernel
theorem dX7_rests_9 : decode cX7_rests 9 = .ok (.ireturn, 1) := by decide +kernel
theorem dX7_rests_10 : decode cX7_rests 10 = .ok (.aload_n 0, 1) := by decide +kernel
theorem dX7_rests_11 : decode cX7_rests 11 = .ok (.getfield 100, 3) := by decide +kernel
theorem dX7_rests_14 : decode cX7_rests 14 = .ok (.sipush 365, 3) := by decide +kernel
theorem dX7_rests_17 : decode cX7_rests 17 = .ok (.idiv, 1) := by decide +kernel
theorem dX7_rests_18 : decode cX7_rests 18 = .ok (.istore_n 2, 1) := by decide +kernel
theorem dX7_rests_19 : decode cX7_rests 19 = .ok (.iload_n 2, 1) := by decide +kernel
theorem dX7_rests_20 : decode cX7_rests 20 = .ok (.iconst 4, 1) := by decide +kernel
theorem dX7_rests_21 : decode cX7_rests 21 = .ok (.if_icmp .lt 7, 3) := by decide +kernel
theorem dX7_rests_24 : decode cX7_rests 24 = .ok (.iconst 1, 1) := by decide +kernel
theorem dX7_rests_25 : decode cX7_rests 25 = .ok (.goto 4, 3) := by decide +kernel
theorem dX7_rests_28 : decode cX7_rests 28 = .ok (.iconst 0, 1) := by decide +kernel
theorem dX7_rests_29 : decode cX7_rests 29 = .ok (.istore_n 3, 1) := by decide +kernel
theorem dX7_rests_30 : decode cX7_rests 30 = .ok (.iconst 1, 1) := by decide +kernel
theorem dX7_rests_31 : decode cX7_rests 31 = .ok (.istore 4, 2) := by decide +kernel
theorem dX7_rests_33 : decode cX7_rests 33 = .ok (.iload 4, 2) := by decide +kernel
theorem dX7_rests_35 : decode cX7_rests 35 = .ok (.iconst 4, 1) := by decide +kernel
theorem dX7_rests_36 : decode cX7_rests 36 = .ok (.if_icmp .gt 36, 3) := by decide +kernel
theorem dX7_rests_39 : decode cX7_rests 39 = .ok (.iload_n 3, 1) := by decide +kernel
theorem dX7_rests_40 : decode cX7_rests 40 = .ok (.ifCond .eq 32, 3) := by decide +kernel
theorem dX7_rests_43 : decode cX7_rests 43 = .ok (.aload_n 0, 1) := by decide +kernel
theorem dX7_rests_44 : decode cX7_rests 44 = .ok (.getfield 35, 3) := by decide +kernel
theorem dX7_rests_47 : decode cX7_rests 47 = .ok (.iload_n 1, 1) := by decide +kernel
theorem dX7_rests_48 : decode cX7_rests 48 = .ok (.iaload, 1) := by decide +kernel
theorem dX7_rests_49 : decode cX7_rests 49 = .ok (.iload_n 2, 1) := by decide +kernel
theorem dX7_rests_50 : decode cX7_rests 50 = .ok (.iload 4, 2) := by decide +kernel
theorem dX7_rests_52 : decode cX7_rests 52 = .ok (.isub, 1) := by decide +kernel
theorem dX7_rests_53 : decode cX7_rests 53 = .ok (.ishr, 1) := by decide +kernel
theorem dX7_rests_54 : decode cX7_rests 54 = .ok (.iconst 1, 1) := by decide +kernel
theorem dX7_rests_55 : decode cX7_rests 55 = .ok (.iand, 1) := by decide +kernel
theorem dX7_rests_56 : decode cX7_rests 56 = .ok (.iconst 1, 1) := by decide +kernel
theorem dX7_rests_57 : decode cX7_rests 57 = .ok (.if_icmp .ne 7, 3) := by decide +kernel
theorem dX7_rests_60 : decode cX7_rests 60 = .ok (.iconst 1, 1) := by decide +kernel
theorem dX7_rests_61 : decode cX7_rests 61 = .ok (.goto 4, 3) := by decide +kernel
theorem dX7_rests_64 : decode cX7_rests 64 = .ok (.iconst 0, 1) := by decide +kernel
theorem dX7_rests_65 : decode cX7_rests 65 = .ok (.istore_n 3, 1) := by decide +kernel
theorem dX7_rests_66 : decode cX7_rests 66 = .ok (.iinc 4 1, 3) := by decide +kernel
theorem dX7_rests_69 : decode cX7_rests 69 = .ok (.goto (-36), 3) := by decide +kernel
theorem dX7_rests_72 : decode cX7_rests 72 = .ok (.iload_n 3, 1) := by decide +kernel
theorem dX7_rests_73 : decode cX7_rests 73 = .ok (.ireturn, 1) := by decide +kernel
theorem dX7_strength_0 : decode cX7_strength 0 = .ok (.iload_n 0, 1) := by decide +kernel
theorem dX7_strength_1 : decode cX7_strength 1 = .ok (.iconst 5, 1) := by decide +kernel
theorem dX7_strength_2 : decode cX7_strength 2 = .ok (.if_icmp .ge 10, 3) := by decide +kernel
theorem dX7_strength_5 : decode cX7_strength 5 = .ok (.bipush 6, 2) := by decide +kernel
theorem dX7_strength_7 : decode cX7_strength 7 = .ok (.iload_n 0, 1) := by decide +kernel
theorem dX7_strength_8 : decode cX7_strength 8 = .ok (.isub, 1) := by decide +kernel
theorem dX7_strength_9 : decode cX7_strength 9 = .ok (.goto 14, 3) := by decide +kernel
theorem dX7_strength_12 : decode cX7_strength 12 = .ok (.iload_n 0, 1) := by decide +kernel
theorem dX7_strength_13 : decode cX7_strength 13 = .ok (.bipush 10, 2) := by decide +kernel
theorem dX7_strength_15 : decode cX7_strength 15 = .ok (.if_icmp .ge 7, 3) := by decide +kernel
theorem dX7_strength_18 : decode cX7_strength 18 = .ok (.iconst 1, 1) := by decide +kernel
theorem dX7_strength_19 : decode cX7_strength 19 = .ok (.goto 4, 3) := by decide +kernel
theorem dX7_strength_22 : decode cX7_strength 22 = .ok (.iconst 0, 1) := by decide +kernel
theorem dX7_strength_23 : decode cX7_strength 23 = .ok (.ireturn, 1) := by decide +kernel
theorem dX7_inCup_0 : decode cX7_inCup 0 = .ok (.iconst 0, 1) := by decide +kernel
theorem dX7_inCup_1 : decode cX7_inCup 1 = .ok (.istore_n 2, 1) := by decide +kernel
theorem dX7_inCup_2 : decode cX7_inCup 2 = .ok (.iconst 0, 1) := by decide +kernel
theorem dX7_inCup_3 : decode cX7_inCup 3 = .ok (.istore_n 3, 1) := by decide +kernel
theorem dX7_inCup_4 : decode cX7_inCup 4 = .ok (.iload_n 3, 1) := by decide +kernel
theorem dX7_inCup_5 : decode cX7_inCup 5 = .ok (.iconst 4, 1) := by decide +kernel
theorem dX7_inCup_6 : decode cX7_inCup 6 = .ok (.if_icmp .ge 22, 3) := by decide +kernel
theorem dX7_inCup_9 : decode cX7_inCup 9 = .ok (.iload_n 2, 1) := by decide +kernel
theorem dX7_inCup_10 : decode cX7_inCup 10 = .ok (.aload_n 0, 1) := by decide +kernel
theorem dX7_inCup_11 : decode cX7_inCup 11 = .ok (.getfield 47, 3) := by decide +kernel
theorem dX7_inCup_14 : decode cX7_inCup 14 = .ok (.iconst 4, 1) := by decide +kernel
theorem dX7_inCup_15 : decode cX7_inCup 15 = .ok (.iload_n 1, 1) := by decide +kernel
theorem dX7_inCup_16 : decode cX7_inCup 16 = .ok (.imul, 1) := by decide +kernel
theorem dX7_inCup_17 : decode cX7_inCup 17 = .ok (.iload_n 3, 1) := by decide +kernel
theorem dX7_inCup_18 : decode cX7_inCup 18 = .ok (.iadd, 1) := by decide +kernel
theorem dX7_inCup_19 : decode cX7_inCup 19 = .ok (.iaload, 1) := by decide +kernel
theorem dX7_inCup_20 : decode cX7_inCup 20 = .ok (.iadd, 1) := by decide +kernel
theorem dX7_inCup_21 : decode cX7_inCup 21 = .ok (.istore_n 2, 1) := by decide +kernel
theorem dX7_inCup_22 : decode cX7_inCup 22 = .ok (.iinc 3 1, 3) := by decide +kernel
theorem dX7_inCup_25 : decode cX7_inCup 25 = .ok (.goto (-21), 3) := by decide +kernel
theorem dX7_inCup_28 : decode cX7_inCup 28 = .ok (.iload_n 2, 1) := by decide +kernel
theorem dX7_inCup_29 : decode cX7_inCup 29 = .ok (.ireturn, 1) := by decide +kernel
theorem dX7_gradeOf_0 : decode cX7_gradeOf 0 = .ok (.iload_n 2, 1) := by decide +kernel
theorem dX7_gradeOf_1 : decode cX7_gradeOf 1 = .ok (.sipush 365, 3) := by decide +kernel
theorem dX7_gradeOf_4 : decode cX7_gradeOf 4 = .ok (.idiv, 1) := by decide +kernel
theorem dX7_gradeOf_5 : decode cX7_gradeOf 5 = .ok (.aload_n 0, 1) := by decide +kernel
theorem dX7_gradeOf_6 : decode cX7_gradeOf 6 = .ok (.getfield 44, 3) := by decide +kernel
theorem dX7_gradeOf_9 : decode cX7_gradeOf 9 = .ok (.iload_n 1, 1) := by decide +kernel
theorem dX7_gradeOf_10 : decode cX7_gradeOf 10 = .ok (.iaload, 1) := by decide +kernel
theorem dX7_gradeOf_11 : decode cX7_gradeOf 11 = .ok (.isub, 1) := by decide +kernel
theorem dX7_gradeOf_12 : decode cX7_gradeOf 12 = .ok (.istore_n 3, 1) := by decide +kernel
theorem dX7_gradeOf_13 : decode cX7_gradeOf 13 = .ok (.iload_n 3, 1) := by decide +kernel
theorem dX7_gradeOf_14 : decode cX7_gradeOf 14 = .ok (.iconst 3, 1) := by decide +kernel
theorem dX7_gradeOf_15 : decode cX7_gradeOf 15 = .ok (.if_icmp .le 7, 3) := by decide +kernel
theorem dX7_gradeOf_18 : decode cX7_gradeOf 18 = .ok (.iconst 3, 1) := by decide +kernel
theorem dX7_gradeOf_19 : decode cX7_gradeOf 19 = .ok (.goto 4, 3) := by decide +kernel
theorem dX7_gradeOf_22 : decode cX7_gradeOf 22 = .ok (.iload_n 3, 1) := by decide +kernel
theorem dX7_gradeOf_23 : decode cX7_gradeOf 23 = .ok (.ireturn, 1) := by decide +kernel
set_option maxRecDepth 20000 in
theorem ggX7_go_X7_in : GoodIn wsX7_go wsX7_in := goodIn_r _ [8] (by decide +kernel) (by decide +kernel)
set_option maxRecDepth 20000 in
theorem gX7_go_X7_in : GoodIn wsX7_go (va_wsS RX7 96 yX7_in wsX7_in) := goodIn_app (goodIn_of _ (by decide +kernel)) ggX7_go_X7_in
set_option maxRecDepth 20000 in
theorem ggX7_go_X7_runs : GoodIn wsX7_go wsX7_runs := goodIn_r _ [12, 13, 1, 14, 15, 16, 17, 18, 19, 20, 7, 21, 22, 23, 24, 25, 26, 27, 28, 29, 30, 37, 38, 39, 40, 41, 42, 43, 44, 45, 46, 47, 48, 49, 50, 51, 52, 53, 54, 55, 56, 57, 58, 59, 60, 61, 62, 63, 64, 65, 66, 67, 68, 69, 70, 71, 72, 73, 74, 75] (by decide +kernel) (by decide +kernel)
set_option maxRecDepth 20000 in
theorem gX7_go_X7_runs : GoodIn wsX7_go (wsV RX7 114 RX7 yX7_runs wsX7_runs) := goodIn_app (goodIn_of _ (by decide +kernel)) ggX7_go_X7_runs
set_option maxRecDepth 20000 in
theorem ggX7_go_X7_washes : GoodIn wsX7_go wsX7_washes := goodIn_r _ [34, 15, 35, 1, 36, 37, 38, 39, 40, 41, 42, 43, 44, 45, 46, 47, 48, 49, 50, 51, 52, 53, 54, 55, 56, 57, 58, 59, 60, 61, 62, 63, 64, 65, 66, 67, 68, 69, 70, 71, 72, 73, 74, 75] (by decide +kernel) (by decide +kernel)
set_option maxRecDepth 20000 in
theorem gX7_go_X7_washes : GoodIn wsX7_go (wsV RX7 118 RX7 yX7_washes wsX7_washes) := goodIn_app (goodIn_of _ (by decide +kernel)) ggX7_go_X7_washes
theorem dX7_go_0 : decode cX7_go 0 = .ok (.iload_n 1, 1) := by decide +kernel
theorem dX7_go_1 : decode cX7_go 1 = .ok (.iconst 0, 1) := by decide +kernel
theorem dX7_go_2 : decode cX7_go 2 = .ok (.sipush 400, 3) := by decide +kernel
theorem dX7_go_5 : decode cX7_go 5 = .ok (.invokestatic 96, 3) := by decide +kernel
theorem dX7_go_8 : decode cX7_go 8 = .ok (.ifCond .ne 5, 3) := by decide +kernel
theorem dX7_go_11 : decode cX7_go 11 = .ok (.iconst (-1), 1) := by decide +kernel
theorem dX7_go_12 : decode cX7_go 12 = .ok (.ireturn, 1) := by decide +kernel
theorem dX7_go_13 : decode cX7_go 13 = .ok (.iconst 0, 1) := by decide +kernel
theorem dX7_go_14 : decode cX7_go 14 = .ok (.istore_n 2, 1) := by decide +kernel
theorem dX7_go_15 : decode cX7_go 15 = .ok (.iload_n 2, 1) := by decide +kernel
theorem dX7_go_16 : decode cX7_go 16 = .ok (.iload_n 1, 1) := by decide +kernel
theorem dX7_go_17 : decode cX7_go 17 = .ok (.if_icmp .ge 130, 3) := by decide +kernel
theorem dX7_go_20 : decode cX7_go 20 = .ok (.aload_n 0, 1) := by decide +kernel
theorem dX7_go_21 : decode cX7_go 21 = .ok (.getfield 100, 3) := by decide +kernel
theorem dX7_go_24 : decode cX7_go 24 = .ok (.sipush 3650, 3) := by decide +kernel
theorem dX7_go_27 : decode cX7_go 27 = .ok (.if_icmp .ge 120, 3) := by decide +kernel
theorem dX7_go_30 : decode cX7_go 30 = .ok (.iconst 0, 1) := by decide +kernel
theorem dX7_go_31 : decode cX7_go 31 = .ok (.istore_n 3, 1) := by decide +kernel
theorem dX7_go_32 : decode cX7_go 32 = .ok (.iload_n 3, 1) := by decide +kernel
theorem dX7_go_33 : decode cX7_go 33 = .ok (.aload_n 0, 1) := by decide +kernel
theorem dX7_go_34 : decode cX7_go 34 = .ok (.getfield 92, 3) := by decide +kernel
theorem dX7_go_37 : decode cX7_go 37 = .ok (.if_icmp .ge 48, 3) := by decide +kernel
theorem dX7_go_40 : decode cX7_go 40 = .ok (.iconst 0, 1) := by decide +kernel
theorem dX7_go_41 : decode cX7_go 41 = .ok (.istore 4, 2) := by decide +kernel
theorem dX7_go_43 : decode cX7_go 43 = .ok (.iload 4, 2) := by decide +kernel
theorem dX7_go_45 : decode cX7_go 45 = .ok (.aload_n 0, 1) := by decide +kernel
theorem dX7_go_46 : decode cX7_go 46 = .ok (.getfield 32, 3) := by decide +kernel
theorem dX7_go_49 : decode cX7_go 49 = .ok (.iload_n 3, 1) := by decide +kernel
theorem dX7_go_50 : decode cX7_go 50 = .ok (.iaload, 1) := by decide +kernel
theorem dX7_go_51 : decode cX7_go 51 = .ok (.if_icmp .ge 28, 3) := by decide +kernel
theorem dX7_go_54 : decode cX7_go 54 = .ok (.aload_n 0, 1) := by decide +kernel
theorem dX7_go_55 : decode cX7_go 55 = .ok (.getfield 28, 3) := by decide +kernel
theorem dX7_go_58 : decode cX7_go 58 = .ok (.iload_n 3, 1) := by decide +kernel
theorem dX7_go_59 : decode cX7_go 59 = .ok (.baload, 1) := by decide +kernel
theorem dX7_go_60 : decode cX7_go 60 = .ok (.ifCond .ne 19, 3) := by decide +kernel
theorem dX7_go_63 : decode cX7_go 63 = .ok (.aload_n 0, 1) := by decide +kernel
theorem dX7_go_64 : decode cX7_go 64 = .ok (.iconst 3, 1) := by decide +kernel
theorem dX7_go_65 : decode cX7_go 65 = .ok (.iload_n 3, 1) := by decide +kernel
theorem dX7_go_66 : decode cX7_go 66 = .ok (.imul, 1) := by decide +kernel
theorem dX7_go_67 : decode cX7_go 67 = .ok (.iload 4, 2) := by decide +kernel
theorem dX7_go_69 : decode cX7_go 69 = .ok (.iadd, 1) := by decide +kernel
theorem dX7_go_70 : decode cX7_go 70 = .ok (.invokevirtual 114, 3) := by decide +kernel
theorem dX7_go_73 : decode cX7_go 73 = .ok (.iinc 4 1, 3) := by decide +kernel
theorem dX7_go_76 : decode cX7_go 76 = .ok (.goto (-33), 3) := by decide +kernel
theorem dX7_go_79 : decode cX7_go 79 = .ok (.iinc 3 1, 3) := by decide +kernel
theorem dX7_go_82 : decode cX7_go 82 = .ok (.goto (-50), 3) := by decide +kernel
theorem dX7_go_85 : decode cX7_go 85 = .ok (.iconst 0, 1) := by decide +kernel
theorem dX7_go_86 : decode cX7_go 86 = .ok (.istore_n 3, 1) := by decide +kernel
theorem dX7_go_87 : decode cX7_go 87 = .ok (.iload_n 3, 1) := by decide +kernel
theorem dX7_go_88 : decode cX7_go 88 = .ok (.aload_n 0, 1) := by decide +kernel
theorem dX7_go_89 : decode cX7_go 89 = .ok (.getfield 92, 3) := by decide +kernel
theorem dX7_go_92 : decode cX7_go 92 = .ok (.if_icmp .ge 39, 3) := by decide +kernel
theorem dX7_go_95 : decode cX7_go 95 = .ok (.iconst 0, 1) := by decide +kernel
theorem dX7_go_96 : decode cX7_go 96 = .ok (.istore 4, 2) := by decide +kernel
theorem dX7_go_98 : decode cX7_go 98 = .ok (.iload 4, 2) := by decide +kernel
theorem dX7_go_100 : decode cX7_go 100 = .ok (.aload_n 0, 1) := by decide +kernel
theorem dX7_go_101 : decode cX7_go 101 = .ok (.getfield 32, 3) := by decide +kernel
theorem dX7_go_104 : decode cX7_go 104 = .ok (.iload_n 3, 1) := by decide +kernel
theorem dX7_go_105 : decode cX7_go 105 = .ok (.iaload, 1) := by decide +kernel
theorem dX7_go_106 : decode cX7_go 106 = .ok (.if_icmp .ge 19, 3) := by decide +kernel
theorem dX7_go_109 : decode cX7_go 109 = .ok (.aload_n 0, 1) := by decide +kernel
theorem dX7_go_110 : decode cX7_go 110 = .ok (.iconst 3, 1) := by decide +kernel
theorem dX7_go_111 : decode cX7_go 111 = .ok (.iload_n 3, 1) := by decide +kernel
theorem dX7_go_112 : decode cX7_go 112 = .ok (.imul, 1) := by decide +kernel
theorem dX7_go_113 : decode cX7_go 113 = .ok (.iload 4, 2) := by decide +kernel
theorem dX7_go_115 : decode cX7_go 115 = .ok (.iadd, 1) := by decide +kernel
theorem dX7_go_116 : decode cX7_go 116 = .ok (.invokevirtual 118, 3) := by decide +kernel
theorem dX7_go_119 : decode cX7_go 119 = .ok (.iinc 4 1, 3) := by decide +kernel
theorem dX7_go_122 : decode cX7_go 122 = .ok (.goto (-24), 3) := by decide +kernel
theorem dX7_go_125 : decode cX7_go 125 = .ok (.iinc 3 1, 3) := by decide +kernel
theorem dX7_go_128 : decode cX7_go 128 = .ok (.goto (-41), 3) := by decide +kernel
theorem dX7_go_131 : decode cX7_go 131 = .ok (.aload_n 0, 1) := by decide +kernel
theorem dX7_go_132 : decode cX7_go 132 = .ok (.dup, 1) := by decide +kernel
theorem dX7_go_133 : decode cX7_go 133 = .ok (.getfield 100, 3) := by decide +kernel
theorem dX7_go_136 : decode cX7_go 136 = .ok (.iconst 1, 1) := by decide +kernel
theorem dX7_go_137 : decode cX7_go 137 = .ok (.iadd, 1) := by decide +kernel
theorem dX7_go_138 : decode cX7_go 138 = .ok (.putfield 100, 3) := by decide +kernel
theorem dX7_go_141 : decode cX7_go 141 = .ok (.iinc 2 1, 3) := by decide +kernel
theorem dX7_go_144 : decode cX7_go 144 = .ok (.goto (-129), 3) := by decide +kernel
theorem dX7_go_147 : decode cX7_go 147 = .ok (.aload_n 0, 1) := by decide +kernel
theorem dX7_go_148 : decode cX7_go 148 = .ok (.getfield 100, 3) := by decide +kernel
theorem dX7_go_151 : decode cX7_go 151 = .ok (.ireturn, 1) := by decide +kernel
set_option maxRecDepth 20000 in
theorem ggX7_runs_X7_strength : GoodIn wsX7_runs wsX7_strength := goodIn_r _ [11] (by decide +kernel) (by decide +kernel)
set_option maxRecDepth 20000 in
theorem gX7_runs_X7_strength : GoodIn wsX7_runs (va_wsS RX7 121 yX7_strength wsX7_strength) := goodIn_app (goodIn_of _ (by decide +kernel)) ggX7_runs_X7_strength
set_option maxRecDepth 20000 in
theorem ggX7_runs_X7_inCup : GoodIn wsX7_runs wsX7_inCup := goodIn_r _ [15, 4, 21, 22, 23, 24, 25, 26, 27, 28, 29, 30, 31, 32, 33, 34, 35, 36, 37, 38, 39, 40, 41, 42, 43, 44, 45, 46, 47, 48, 49, 50, 51, 52, 53, 54, 55, 56, 57, 58, 59] (by decide +kernel) (by decide +kernel)
set_option maxRecDepth 20000 in
theorem gX7_runs_X7_inCup : GoodIn wsX7_runs (wsV RX7 124 RX7 yX7_inCup wsX7_inCup) := goodIn_app (goodIn_of _ (by decide +kernel)) ggX7_runs_X7_inCup
set_option maxRecDepth 20000 in
theorem ggX7_runs_X7_gradeOf : GoodIn wsX7_runs wsX7_gradeOf := goodIn_r _ [19, 20, 21, 22, 23, 24, 25, 26, 27, 28, 29, 30, 31, 32, 33, 34, 35, 36, 37, 38, 39, 40, 41, 42, 43, 44, 45, 46, 47, 48, 49, 50, 51, 52, 53, 54, 55, 56, 57, 58, 59] (by decide +kernel) (by decide +kernel)
set_option maxRecDepth 20000 in
theorem gX7_runs_X7_gradeOf : GoodIn wsX7_runs (wsV RX7 127 RX7 yX7_gradeOf wsX7_gradeOf) := goodIn_app (goodIn_of _ (by decide +kernel)) ggX7_runs_X7_gradeOf
theorem dX7_runs_0 : decode cX7_runs 0 = .ok (.aload_n 0, 1) := by decide +kernel
theorem dX7_runs_1 : decode cX7_runs 1 = .ok (.getfield 9, 3) := by decide +kernel
theorem dX7_runs_4 : decode cX7_runs 4 = .ok (.aload_n 0, 1) := by decide +kernel
theorem dX7_runs_5 : decode cX7_runs 5 = .ok (.getfield 100, 3) := by decide +kernel
theorem dX7_runs_8 : decode cX7_runs 8 = .ok (.iaload, 1) := by decide +kernel
theorem dX7_runs_9 : decode cX7_runs 9 = .ok (.aload_n 0, 1) := by decide +kernel
theorem dX7_runs_10 : decode cX7_runs 10 = .ok (.getfield 100, 3) := by decide +kernel
theorem dX7_runs_13 : decode cX7_runs 13 = .ok (.aload_n 0, 1) := by decide +kernel
theorem dX7_runs_14 : decode cX7_runs 14 = .ok (.getfield 41, 3) := by decide +kernel
theorem dX7_runs_17 : decode cX7_runs 17 = .ok (.iload_n 1, 1) := by decide +kernel
theorem dX7_runs_18 : decode cX7_runs 18 = .ok (.iaload, 1) := by decide +kernel
theorem dX7_runs_19 : decode cX7_runs 19 = .ok (.isub, 1) := by decide +kernel
theorem dX7_runs_20 : decode cX7_runs 20 = .ok (.invokestatic 121, 3) := by decide +kernel
theorem dX7_runs_23 : decode cX7_runs 23 = .ok (.imul, 1) := by decide +kernel
theorem dX7_runs_24 : decode cX7_runs 24 = .ok (.istore_n 2, 1) := by decide +kernel
theorem dX7_runs_25 : decode cX7_runs 25 = .ok (.sipush 400, 3) := by decide +kernel
theorem dX7_runs_28 : decode cX7_runs 28 = .ok (.aload_n 0, 1) := by decide +kernel
theorem dX7_runs_29 : decode cX7_runs 29 = .ok (.iload_n 1, 1) := by decide +kernel
theorem dX7_runs_30 : decode cX7_runs 30 = .ok (.invokevirtual 124, 3) := by decide +kernel
theorem dX7_runs_33 : decode cX7_runs 33 = .ok (.isub, 1) := by decide +kernel
theorem dX7_runs_34 : decode cX7_runs 34 = .ok (.istore_n 3, 1) := by decide +kernel
theorem dX7_runs_35 : decode cX7_runs 35 = .ok (.iload_n 2, 1) := by decide +kernel
theorem dX7_runs_36 : decode cX7_runs 36 = .ok (.iload_n 3, 1) := by decide +kernel
theorem dX7_runs_37 : decode cX7_runs 37 = .ok (.if_icmp .ge 7, 3) := by decide +kernel
theorem dX7_runs_40 : decode cX7_runs 40 = .ok (.iload_n 2, 1) := by decide +kernel
theorem dX7_runs_41 : decode cX7_runs 41 = .ok (.goto 4, 3) := by decide +kernel
theorem dX7_runs_44 : decode cX7_runs 44 = .ok (.iload_n 3, 1) := by decide +kernel
theorem dX7_runs_45 : decode cX7_runs 45 = .ok (.istore 4, 2) := by decide +kernel
theorem dX7_runs_47 : decode cX7_runs 47 = .ok (.aload_n 0, 1) := by decide +kernel
theorem dX7_runs_48 : decode cX7_runs 48 = .ok (.getfield 47, 3) := by decide +kernel
theorem dX7_runs_51 : decode cX7_runs 51 = .ok (.iconst 4, 1) := by decide +kernel
theorem dX7_runs_52 : decode cX7_runs 52 = .ok (.iload_n 1, 1) := by decide +kernel
theorem dX7_runs_53 : decode cX7_runs 53 = .ok (.imul, 1) := by decide +kernel
theorem dX7_runs_54 : decode cX7_runs 54 = .ok (.aload_n 0, 1) := by decide +kernel
theorem dX7_runs_55 : decode cX7_runs 55 = .ok (.iload_n 1, 1) := by decide +kernel
theorem dX7_runs_56 : decode cX7_runs 56 = .ok (.aload_n 0, 1) := by decide +kernel
theorem dX7_runs_57 : decode cX7_runs 57 = .ok (.getfield 100, 3) := by decide +kernel
theorem dX7_runs_60 : decode cX7_runs 60 = .ok (.invokevirtual 127, 3) := by decide +kernel
theorem dX7_runs_63 : decode cX7_runs 63 = .ok (.iadd, 1) := by decide +kernel
theorem dX7_runs_64 : decode cX7_runs 64 = .ok (.dup2, 1) := by decide +kernel
theorem dX7_runs_65 : decode cX7_runs 65 = .ok (.iaload, 1) := by decide +kernel
theorem dX7_runs_66 : decode cX7_runs 66 = .ok (.iload 4, 2) := by decide +kernel
theorem dX7_runs_68 : decode cX7_runs 68 = .ok (.iadd, 1) := by decide +kernel
theorem dX7_runs_69 : decode cX7_runs 69 = .ok (.iastore, 1) := by decide +kernel
theorem dX7_runs_70 : decode cX7_runs 70 = .ok (.aload_n 0, 1) := by decide +kernel
theorem dX7_runs_71 : decode cX7_runs 71 = .ok (.getfield 50, 3) := by decide +kernel
theorem dX7_runs_74 : decode cX7_runs 74 = .ok (.iload_n 1, 1) := by decide +kernel
theorem dX7_runs_75 : decode cX7_runs 75 = .ok (.dup2, 1) := by decide +kernel
theorem dX7_runs_76 : decode cX7_runs 76 = .ok (.iaload, 1) := by decide +kernel
theorem dX7_runs_77 : decode cX7_runs 77 = .ok (.iload_n 2, 1) := by decide +kernel
theorem dX7_runs_78 : decode cX7_runs 78 = .ok (.iload 4, 2) := by decide +kernel
theorem dX7_runs_80 : decode cX7_runs 80 = .ok (.isub, 1) := by decide +kernel
theorem dX7_runs_81 : decode cX7_runs 81 = .ok (.iadd, 1) := by decide +kernel
theorem dX7_runs_82 : decode cX7_runs 82 = .ok (.iastore, 1) := by decide +kernel
theorem dX7_runs_83 : decode cX7_runs 83 = .ok (.aload_n 0, 1) := by decide +kernel
theorem dX7_runs_84 : decode cX7_runs 84 = .ok (.dup, 1) := by decide +kernel
theorem dX7_runs_85 : decode cX7_runs 85 = .ok (.getfield 131, 3) := by decide +kernel
theorem dX7_runs_88 : decode cX7_runs 88 = .ok (.iload_n 2, 1) := by decide +kernel
theorem dX7_runs_89 : decode cX7_runs 89 = .ok (.iload 4, 2) := by decide +kernel
theorem dX7_runs_91 : decode cX7_runs 91 = .ok (.isub, 1) := by decide +kernel
theorem dX7_runs_92 : decode cX7_runs 92 = .ok (.iadd, 1) := by decide +kernel
theorem dX7_runs_93 : decode cX7_runs 93 = .ok (.putfield 131, 3) := by decide +kernel
theorem dX7_runs_96 : decode cX7_runs 96 = .ok (.aload_n 0, 1) := by decide +kernel
theorem dX7_runs_97 : decode cX7_runs 97 = .ok (.dup, 1) := by decide +kernel
theorem dX7_runs_98 : decode cX7_runs 98 = .ok (.getfield 134, 3) := by decide +kernel
theorem dX7_runs_101 : decode cX7_runs 101 = .ok (.iload_n 2, 1) := by decide +kernel
theorem dX7_runs_102 : decode cX7_runs 102 = .ok (.iadd, 1) := by decide +kernel
theorem dX7_runs_103 : decode cX7_runs 103 = .ok (.putfield 134, 3) := by decide +kernel
theorem dX7_runs_106 : decode cX7_runs 106 = .ok (.return_, 1) := by decide +kernel
theorem dX7_washes_0 : decode cX7_washes 0 = .ok (.iconst 0, 1) := by decide +kernel
theorem dX7_washes_1 : decode cX7_washes 1 = .ok (.istore_n 2, 1) := by decide +kernel
theorem dX7_washes_2 : decode cX7_washes 2 = .ok (.iload_n 2, 1) := by decide +kernel
theorem dX7_washes_3 : decode cX7_washes 3 = .ok (.iconst 4, 1) := by decide +kernel
theorem dX7_washes_4 : decode cX7_washes 4 = .ok (.if_icmp .ge 57, 3) := by decide +kernel
theorem dX7_washes_7 : decode cX7_washes 7 = .ok (.aload_n 0, 1) := by decide +kernel
theorem dX7_washes_8 : decode cX7_washes 8 = .ok (.getfield 47, 3) := by decide +kernel
theorem dX7_washes_11 : decode cX7_washes 11 = .ok (.iconst 4, 1) := by decide +kernel
theorem dX7_washes_12 : decode cX7_washes 12 = .ok (.iload_n 1, 1) := by decide +kernel
theorem dX7_washes_13 : decode cX7_washes 13 = .ok (.imul, 1) := by decide +kernel
theorem dX7_washes_14 : decode cX7_washes 14 = .ok (.iload_n 2, 1) := by decide +kernel
theorem dX7_washes_15 : decode cX7_washes 15 = .ok (.iadd, 1) := by decide +kernel
theorem dX7_washes_16 : decode cX7_washes 16 = .ok (.iaload, 1) := by decide +kernel
theorem dX7_washes_17 : decode cX7_washes 17 = .ok (.aload_n 0, 1) := by decide +kernel
theorem dX7_washes_18 : decode cX7_washes 18 = .ok (.getfield 13, 3) := by decide +kernel
theorem dX7_washes_21 : decode cX7_washes 21 = .ok (.aload_n 0, 1) := by decide +kernel
theorem dX7_washes_22 : decode cX7_washes 22 = .ok (.getfield 100, 3) := by decide +kernel
theorem dX7_washes_25 : decode cX7_washes 25 = .ok (.iaload, 1) := by decide +kernel
theorem dX7_washes_26 : decode cX7_washes 26 = .ok (.imul, 1) := by decide +kernel
theorem dX7_washes_27 : decode cX7_washes 27 = .ok (.bipush 100, 2) := by decide +kernel
theorem dX7_washes_29 : decode cX7_washes 29 = .ok (.idiv, 1) := by decide +kernel
theorem dX7_washes_30 : decode cX7_washes 30 = .ok (.istore_n 3, 1) := by decide +kernel
theorem dX7_washes_31 : decode cX7_washes 31 = .ok (.aload_n 0, 1) := by decide +kernel
theorem dX7_washes_32 : decode cX7_washes 32 = .ok (.getfield 47, 3) := by decide +kernel
theorem dX7_washes_35 : decode cX7_washes 35 = .ok (.iconst 4, 1) := by decide +kernel
theorem dX7_washes_36 : decode cX7_washes 36 = .ok (.iload_n 1, 1) := by decide +kernel
theorem dX7_washes_37 : decode cX7_washes 37 = .ok (.imul, 1) := by decide +kernel
theorem dX7_washes_38 : decode cX7_washes 38 = .ok (.iload_n 2, 1) := by decide +kernel
theorem dX7_washes_39 : decode cX7_washes 39 = .ok (.iadd, 1) := by decide +kernel
theorem dX7_washes_40 : decode cX7_washes 40 = .ok (.dup2, 1) := by decide +kernel
theorem dX7_washes_41 : decode cX7_washes 41 = .ok (.iaload, 1) := by decide +kernel
theorem dX7_washes_42 : decode cX7_washes 42 = .ok (.iload_n 3, 1) := by decide +kernel
theorem dX7_washes_43 : decode cX7_washes 43 = .ok (.isub, 1) := by decide +kernel
theorem dX7_washes_44 : decode cX7_washes 44 = .ok (.iastore, 1) := by decide +kernel
theorem dX7_washes_45 : decode cX7_washes 45 = .ok (.aload_n 0, 1) := by decide +kernel
theorem dX7_washes_46 : decode cX7_washes 46 = .ok (.dup, 1) := by decide +kernel
theorem dX7_washes_47 : decode cX7_washes 47 = .ok (.getfield 137, 3) := by decide +kernel
theorem dX7_washes_50 : decode cX7_washes 50 = .ok (.iload_n 3, 1) := by decide +kernel
theorem dX7_washes_51 : decode cX7_washes 51 = .ok (.iadd, 1) := by decide +kernel
theorem dX7_washes_52 : decode cX7_washes 52 = .ok (.putfield 137, 3) := by decide +kernel
theorem dX7_washes_55 : decode cX7_washes 55 = .ok (.iinc 2 1, 3) := by decide +kernel
theorem dX7_washes_58 : decode cX7_washes 58 = .ok (.goto (-56), 3) := by decide +kernel
theorem dX7_washes_61 : decode cX7_washes 61 = .ok (.return_, 1) := by decide +kernel
set_option maxRecDepth 20000 in
theorem ggX7_face_X7_isTree : GoodIn wsX7_face wsX7_isTree := goodIn_r _ [11, 12, 13, 14, 10, 15, 20, 21, 22, 23, 24, 25, 26, 27, 28, 29, 30, 31, 32, 33, 34, 35, 36, 37, 38, 39, 40, 41, 42, 43, 44, 45, 46, 47, 48, 49, 50, 51, 52, 53, 54, 55, 56, 57, 58] (by decide +kernel) (by decide +kernel)
set_option maxRecDepth 20000 in
theorem gX7_face_X7_isTree : GoodIn wsX7_face (wsV RX7 103 RX7 yX7_isTree wsX7_isTree) := goodIn_app (goodIn_of _ (by decide +kernel)) ggX7_face_X7_isTree
set_option maxRecDepth 20000 in
theorem ggX7_face_X7_in : GoodIn wsX7_face wsX7_in := goodIn_r _ [15] (by decide +kernel) (by decide +kernel)
set_option maxRecDepth 20000 in
theorem gX7_face_X7_in : GoodIn wsX7_face (va_wsS RX7 96 yX7_in wsX7_in) := goodIn_app (goodIn_of _ (by decide +kernel)) ggX7_face_X7_in
set_option maxRecDepth 20000 in
theorem ggX7_face_X7_inCup : GoodIn wsX7_face wsX7_inCup := goodIn_r _ [19, 2, 20, 21, 22, 23, 24, 25, 26, 27, 28, 29, 30, 31, 32, 33, 34, 35, 36, 37, 38, 39, 40, 41, 42, 43, 44, 45, 46, 47, 48, 49, 50, 51, 52, 53, 54, 55, 56, 57, 58] (by decide +kernel) (by decide +kernel)
set_option maxRecDepth 20000 in
theorem gX7_face_X7_inCup : GoodIn wsX7_face (wsV RX7 124 RX7 yX7_inCup wsX7_inCup) := goodIn_app (goodIn_of _ (by decide +kernel)) ggX7_face_X7_inCup
theorem dX7_face_0 : decode cX7_face 0 = .ok (.aload_n 0, 1) := by decide +kernel
theorem dX7_face_1 : decode cX7_face 1 = .ok (.iload_n 1, 1) := by decide +kernel
theorem dX7_face_2 : decode cX7_face 2 = .ok (.invokevirtual 103, 3) := by decide +kernel
theorem dX7_face_5 : decode cX7_face 5 = .ok (.ifCond .eq 19, 3) := by decide +kernel
theorem dX7_face_8 : decode cX7_face 8 = .ok (.iload_n 2, 1) := by decide +kernel
theorem dX7_face_9 : decode cX7_face 9 = .ok (.iconst 0, 1) := by decide +kernel
theorem dX7_face_10 : decode cX7_face 10 = .ok (.aload_n 0, 1) := by decide +kernel
theorem dX7_face_11 : decode cX7_face 11 = .ok (.getfield 32, 3) := by decide +kernel
theorem dX7_face_14 : decode cX7_face 14 = .ok (.iload_n 1, 1) := by decide +kernel
theorem dX7_face_15 : decode cX7_face 15 = .ok (.iaload, 1) := by decide +kernel
theorem dX7_face_16 : decode cX7_face 16 = .ok (.iconst 1, 1) := by decide +kernel
theorem dX7_face_17 : decode cX7_face 17 = .ok (.isub, 1) := by decide +kernel
theorem dX7_face_18 : decode cX7_face 18 = .ok (.invokestatic 96, 3) := by decide +kernel
theorem dX7_face_21 : decode cX7_face 21 = .ok (.ifCond .ne 5, 3) := by decide +kernel
theorem dX7_face_24 : decode cX7_face 24 = .ok (.iconst (-1), 1) := by decide +kernel
theorem dX7_face_25 : decode cX7_face 25 = .ok (.ireturn, 1) := by decide +kernel
theorem dX7_face_26 : decode cX7_face 26 = .ok (.iconst 3, 1) := by decide +kernel
theorem dX7_face_27 : decode cX7_face 27 = .ok (.iload_n 1, 1) := by decide +kernel
theorem dX7_face_28 : decode cX7_face 28 = .ok (.imul, 1) := by decide +kernel
theorem dX7_face_29 : decode cX7_face 29 = .ok (.iload_n 2, 1) := by decide +kernel
theorem dX7_face_30 : decode cX7_face 30 = .ok (.iadd, 1) := by decide +kernel
theorem dX7_face_31 : decode cX7_face 31 = .ok (.istore 4, 2) := by decide +kernel
theorem dX7_face_33 : decode cX7_face 33 = .ok (.iload_n 3, 1) := by decide +kernel
theorem dX7_face_34 : decode cX7_face 34 = .ok (.iconst 4, 1) := by decide +kernel
theorem dX7_face_35 : decode cX7_face 35 = .ok (.bipush 7, 2) := by decide +kernel
theorem dX7_face_37 : decode cX7_face 37 = .ok (.invokestatic 96, 3) := by decide +kernel
theorem dX7_face_40 : decode cX7_face 40 = .ok (.ifCond .eq 17, 3) := by decide +kernel
theorem dX7_face_43 : decode cX7_face 43 = .ok (.aload_n 0, 1) := by decide +kernel
theorem dX7_face_44 : decode cX7_face 44 = .ok (.getfield 47, 3) := by decide +kernel
theorem dX7_face_47 : decode cX7_face 47 = .ok (.iconst 4, 1) := by decide +kernel
theorem dX7_face_48 : decode cX7_face 48 = .ok (.iload 4, 2) := by decide +kernel
theorem dX7_face_50 : decode cX7_face 50 = .ok (.imul, 1) := by decide +kernel
theorem dX7_face_51 : decode cX7_face 51 = .ok (.iload_n 3, 1) := by decide +kernel
theorem dX7_face_52 : decode cX7_face 52 = .ok (.iadd, 1) := by decide +kernel
theorem dX7_face_53 : decode cX7_face 53 = .ok (.iconst 4, 1) := by decide +kernel
theorem dX7_face_54 : decode cX7_face 54 = .ok (.isub, 1) := by decide +kernel
theorem dX7_face_55 : decode cX7_face 55 = .ok (.iaload, 1) := by decide +kernel
theorem dX7_face_56 : decode cX7_face 56 = .ok (.ireturn, 1) := by decide +kernel
theorem dX7_face_57 : decode cX7_face 57 = .ok (.iload_n 3, 1) := by decide +kernel
theorem dX7_face_58 : decode cX7_face 58 = .ok (.tableswitch 89 0 8 #[50, 58, 66, 74, 89, 89, 89, 89, 81], 50) := by decide +kernel
theorem dX7_face_108 : decode cX7_face 108 = .ok (.aload_n 0, 1) := by decide +kernel
theorem dX7_face_109 : decode cX7_face 109 = .ok (.getfield 38, 3) := by decide +kernel
theorem dX7_face_112 : decode cX7_face 112 = .ok (.iload 4, 2) := by decide +kernel
theorem dX7_face_114 : decode cX7_face 114 = .ok (.iaload, 1) := by decide +kernel
theorem dX7_face_115 : decode cX7_face 115 = .ok (.ireturn, 1) := by decide +kernel
theorem dX7_face_116 : decode cX7_face 116 = .ok (.aload_n 0, 1) := by decide +kernel
theorem dX7_face_117 : decode cX7_face 117 = .ok (.getfield 41, 3) := by decide +kernel
theorem dX7_face_120 : decode cX7_face 120 = .ok (.iload 4, 2) := by decide +kernel
theorem dX7_face_122 : decode cX7_face 122 = .ok (.iaload, 1) := by decide +kernel
theorem dX7_face_123 : decode cX7_face 123 = .ok (.ireturn, 1) := by decide +kernel
theorem dX7_face_124 : decode cX7_face 124 = .ok (.aload_n 0, 1) := by decide +kernel
theorem dX7_face_125 : decode cX7_face 125 = .ok (.getfield 44, 3) := by decide +kernel
theorem dX7_face_128 : decode cX7_face 128 = .ok (.iload 4, 2) := by decide +kernel
theorem dX7_face_130 : decode cX7_face 130 = .ok (.iaload, 1) := by decide +kernel
theorem dX7_face_131 : decode cX7_face 131 = .ok (.ireturn, 1) := by decide +kernel
theorem dX7_face_132 : decode cX7_face 132 = .ok (.aload_n 0, 1) := by decide +kernel
theorem dX7_face_133 : decode cX7_face 133 = .ok (.iload 4, 2) := by decide +kernel
theorem dX7_face_135 : decode cX7_face 135 = .ok (.invokevirtual 124, 3) := by decide +kernel
theorem dX7_face_138 : decode cX7_face 138 = .ok (.ireturn, 1) := by decide +kernel
theorem dX7_face_139 : decode cX7_face 139 = .ok (.aload_n 0, 1) := by decide +kernel
theorem dX7_face_140 : decode cX7_face 140 = .ok (.getfield 50, 3) := by decide +kernel
theorem dX7_face_143 : decode cX7_face 143 = .ok (.iload 4, 2) := by decide +kernel
theorem dX7_face_145 : decode cX7_face 145 = .ok (.iaload, 1) := by decide +kernel
theorem dX7_face_146 : decode cX7_face 146 = .ok (.ireturn, 1) := by decide +kernel
theorem dX7_face_147 : decode cX7_face 147 = .ok (.iconst (-1), 1) := by decide +kernel
theorem dX7_face_148 : decode cX7_face 148 = .ok (.ireturn, 1) := by decide +kernel
theorem dX7_has_0 : decode cX7_has 0 = .ok (.iconst 0, 1) := by decide +kernel
theorem dX7_has_1 : decode cX7_has 1 = .ok (.istore_n 2, 1) := by decide +kernel
theorem dX7_has_2 : decode cX7_has 2 = .ok (.iconst 0, 1) := by decide +kernel
theorem dX7_has_3 : decode cX7_has 3 = .ok (.istore_n 3, 1) := by decide +kernel
theorem dX7_has_4 : decode cX7_has 4 = .ok (.iload_n 3, 1) := by decide +kernel
theorem dX7_has_5 : decode cX7_has 5 = .ok (.iconst 4, 1) := by decide +kernel
theorem dX7_has_6 : decode cX7_has 6 = .ok (.if_icmp .ge 22, 3) := by decide +kernel
theorem dX7_has_9 : decode cX7_has 9 = .ok (.iload_n 2, 1) := by decide +kernel
theorem dX7_has_10 : decode cX7_has 10 = .ok (.aload_n 0, 1) := by decide +kernel
theorem dX7_has_11 : decode cX7_has 11 = .ok (.getfield 56, 3) := by decide +kernel
theorem dX7_has_14 : decode cX7_has 14 = .ok (.iconst 4, 1) := by decide +kernel
theorem dX7_has_15 : decode cX7_has 15 = .ok (.iload_n 1, 1) := by decide +kernel
theorem dX7_has_16 : decode cX7_has 16 = .ok (.imul, 1) := by decide +kernel
theorem dX7_has_17 : decode cX7_has 17 = .ok (.iload_n 3, 1) := by decide +kernel
theorem dX7_has_18 : decode cX7_has 18 = .ok (.iadd, 1) := by decide +kernel
theorem dX7_has_19 : decode cX7_has 19 = .ok (.iaload, 1) := by decide +kernel
theorem dX7_has_20 : decode cX7_has 20 = .ok (.iadd, 1) := by decide +kernel
theorem dX7_has_21 : decode cX7_has 21 = .ok (.istore_n 2, 1) := by decide +kernel
theorem dX7_has_22 : decode cX7_has 22 = .ok (.iinc 3 1, 3) := by decide +kernel
theorem dX7_has_25 : decode cX7_has 25 = .ok (.goto (-21), 3) := by decide +kernel
theorem dX7_has_28 : decode cX7_has 28 = .ok (.iload_n 2, 1) := by decide +kernel
theorem dX7_has_29 : decode cX7_has 29 = .ok (.ireturn, 1) := by decide +kernel
set_option maxRecDepth 20000 in
theorem ggX7_isFull_X7_has : GoodIn wsX7_isFull wsX7_has := goodIn_r _ [7, 8, 9, 10, 11, 12, 13, 14, 15, 16, 17, 18, 19, 20, 21, 22, 23, 24, 25, 26, 27, 28, 29, 30, 31, 32, 33, 34, 35, 36, 37, 38, 39, 40, 41, 42, 43, 44, 45, 46, 47] (by decide +kernel) (by decide +kernel)
set_option maxRecDepth 20000 in
theorem gX7_isFull_X7_has : GoodIn wsX7_isFull (wsV RX7 140 RX7 yX7_has wsX7_has) := goodIn_app (goodIn_of _ (by decide +kernel)) ggX7_isFull_X7_has
theorem dX7_isFull_0 : decode cX7_isFull 0 = .ok (.aload_n 0, 1) := by decide +kernel
theorem dX7_isFull_1 : decode cX7_isFull 1 = .ok (.iload_n 1, 1) := by decide +kernel
theorem dX7_isFull_2 : decode cX7_isFull 2 = .ok (.invokevirtual 140, 3) := by decide +kernel
theorem dX7_isFull_5 : decode cX7_isFull 5 = .ok (.sipush 1000, 3) := by decide +kernel
theorem dX7_isFull_8 : decode cX7_isFull 8 = .ok (.if_icmp .eq 21, 3) := by decide +kernel
theorem dX7_isFull_11 : decode cX7_isFull 11 = .ok (.aload_n 0, 1) := by decide +kernel
theorem dX7_isFull_12 : decode cX7_isFull 12 = .ok (.getfield 62, 3) := by decide +kernel
theorem dX7_isFull_15 : decode cX7_isFull 15 = .ok (.iload_n 1, 1) := by decide +kernel
theorem dX7_isFull_16 : decode cX7_isFull 16 = .ok (.baload, 1) := by decide +kernel
theorem dX7_isFull_17 : decode cX7_isFull 17 = .ok (.ifCond .ne 12, 3) := by decide +kernel
theorem dX7_isFull_20 : decode cX7_isFull 20 = .ok (.aload_n 0, 1) := by decide +kernel
theorem dX7_isFull_21 : decode cX7_isFull 21 = .ok (.getfield 65, 3) := by decide +kernel
theorem dX7_isFull_24 : decode cX7_isFull 24 = .ok (.iload_n 1, 1) := by decide +kernel
theorem dX7_isFull_25 : decode cX7_isFull 25 = .ok (.baload, 1) := by decide +kernel
theorem dX7_isFull_26 : decode cX7_isFull 26 = .ok (.ifCond .eq 7, 3) := by decide +kernel
theorem dX7_isFull_29 : decode cX7_isFull 29 = .ok (.iconst 1, 1) := by decide +kernel
theorem dX7_isFull_30 : decode cX7_isFull 30 = .ok (.goto 4, 3) := by decide +kernel
theorem dX7_isFull_33 : decode cX7_isFull 33 = .ok (.iconst 0, 1) := by decide +kernel
theorem dX7_isFull_34 : decode cX7_isFull 34 = .ok (.ireturn, 1) := by decide +kernel
set_option maxRecDepth 20000 in
theorem ggX7_room_X7_isFull : GoodIn wsX7_room wsX7_isFull := goodIn_r _ [7, 8, 9, 10, 11, 12, 6, 13, 14, 15, 16, 17, 18, 19, 20, 21, 22, 23, 24, 25, 26, 27, 28, 29, 30, 31, 32, 33, 34, 35, 36, 37, 38, 39, 40, 41, 42, 43, 44, 45, 46, 47, 48, 49, 50, 51, 52, 53] (by decide +kernel) (by decide +kernel)
set_option maxRecDepth 20000 in
theorem gX7_room_X7_isFull : GoodIn wsX7_room (wsV RX7 146 RX7 yX7_isFull wsX7_isFull) := goodIn_app (goodIn_of _ (by decide +kernel)) ggX7_room_X7_isFull
set_option maxRecDepth 20000 in
theorem ggX7_room_X7_has : GoodIn wsX7_room wsX7_has := goodIn_r _ [13, 14, 15, 16, 17, 18, 19, 20, 21, 22, 23, 24, 25, 26, 27, 28, 29, 30, 31, 32, 33, 34, 35, 36, 37, 38, 39, 40, 41, 42, 43, 44, 45, 46, 47, 48, 49, 50, 51, 52, 53] (by decide +kernel) (by decide +kernel)
set_option maxRecDepth 20000 in
theorem gX7_room_X7_has : GoodIn wsX7_room (wsV RX7 140 RX7 yX7_has wsX7_has) := goodIn_app (goodIn_of _ (by decide +kernel)) ggX7_room_X7_has
theorem dX7_room_0 : decode cX7_room 0 = .ok (.iconst 0, 1) := by decide +kernel
theorem dX7_room_1 : decode cX7_room 1 = .ok (.istore_n 2, 1) := by decide +kernel
theorem dX7_room_2 : decode cX7_room 2 = .ok (.iconst 0, 1) := by decide +kernel
theorem dX7_room_3 : decode cX7_room 3 = .ok (.istore_n 3, 1) := by decide +kernel
theorem dX7_room_4 : decode cX7_room 4 = .ok (.iload_n 3, 1) := by decide +kernel
theorem dX7_room_5 : decode cX7_room 5 = .ok (.aload_n 0, 1) := by decide +kernel
theorem dX7_room_6 : decode cX7_room 6 = .ok (.getfield 143, 3) := by decide +kernel
theorem dX7_room_9 : decode cX7_room 9 = .ok (.if_icmp .ge 39, 3) := by decide +kernel
theorem dX7_room_12 : decode cX7_room 12 = .ok (.aload_n 0, 1) := by decide +kernel
theorem dX7_room_13 : decode cX7_room 13 = .ok (.getfield 53, 3) := by decide +kernel
theorem dX7_room_16 : decode cX7_room 16 = .ok (.iload_n 3, 1) := by decide +kernel
theorem dX7_room_17 : decode cX7_room 17 = .ok (.iaload, 1) := by decide +kernel
theorem dX7_room_18 : decode cX7_room 18 = .ok (.iload_n 1, 1) := by decide +kernel
theorem dX7_room_19 : decode cX7_room 19 = .ok (.if_icmp .ne 23, 3) := by decide +kernel
theorem dX7_room_22 : decode cX7_room 22 = .ok (.aload_n 0, 1) := by decide +kernel
theorem dX7_room_23 : decode cX7_room 23 = .ok (.iload_n 3, 1) := by decide +kernel
theorem dX7_room_24 : decode cX7_room 24 = .ok (.invokevirtual 146, 3) := by decide +kernel
theorem dX7_room_27 : decode cX7_room 27 = .ok (.ifCond .ne 15, 3) := by decide +kernel
theorem dX7_room_30 : decode cX7_room 30 = .ok (.iload_n 2, 1) := by decide +kernel
theorem dX7_room_31 : decode cX7_room 31 = .ok (.sipush 1000, 3) := by decide +kernel
theorem dX7_room_34 : decode cX7_room 34 = .ok (.aload_n 0, 1) := by decide +kernel
theorem dX7_room_35 : decode cX7_room 35 = .ok (.iload_n 3, 1) := by decide +kernel
theorem dX7_room_36 : decode cX7_room 36 = .ok (.invokevirtual 140, 3) := by decide +kernel
theorem dX7_room_39 : decode cX7_room 39 = .ok (.isub, 1) := by decide +kernel
theorem dX7_room_40 : decode cX7_room 40 = .ok (.iadd, 1) := by decide +kernel
theorem dX7_room_41 : decode cX7_room 41 = .ok (.istore_n 2, 1) := by decide +kernel
theorem dX7_room_42 : decode cX7_room 42 = .ok (.iinc 3 1, 3) := by decide +kernel
theorem dX7_room_45 : decode cX7_room 45 = .ok (.goto (-41), 3) := by decide +kernel
theorem dX7_room_48 : decode cX7_room 48 = .ok (.iload_n 2, 1) := by decide +kernel
theorem dX7_room_49 : decode cX7_room 49 = .ok (.ireturn, 1) := by decide +kernel
set_option maxRecDepth 20000 in
theorem ggX7_empty_X7_isTree : GoodIn wsX7_empty wsX7_isTree := goodIn_r _ [11, 12, 13, 14, 10, 15, 41, 42, 43, 44, 45, 46, 47, 48, 49, 50, 51, 52, 53, 54, 55, 56, 57, 58, 59, 60, 61, 62, 63, 64, 65, 66, 67, 68, 69, 70, 71, 72, 73, 74, 75, 76, 77, 78, 79] (by decide +kernel) (by decide +kernel)
set_option maxRecDepth 20000 in
theorem gX7_empty_X7_isTree : GoodIn wsX7_empty (wsV RX7 103 RX7 yX7_isTree wsX7_isTree) := goodIn_app (goodIn_of _ (by decide +kernel)) ggX7_empty_X7_isTree
set_option maxRecDepth 20000 in
theorem ggX7_empty_X7_inCup : GoodIn wsX7_empty wsX7_inCup := goodIn_r _ [19, 4, 41, 42, 43, 44, 45, 46, 47, 48, 49, 50, 51, 52, 53, 54, 55, 56, 57, 58, 59, 60, 61, 62, 63, 64, 65, 66, 67, 68, 69, 70, 71, 72, 73, 74, 75, 76, 77, 78, 79] (by decide +kernel) (by decide +kernel)
set_option maxRecDepth 20000 in
theorem gX7_empty_X7_inCup : GoodIn wsX7_empty (wsV RX7 124 RX7 yX7_inCup wsX7_inCup) := goodIn_app (goodIn_of _ (by decide +kernel)) ggX7_empty_X7_inCup
set_option maxRecDepth 20000 in
theorem ggX7_empty_X7_room : GoodIn wsX7_empty wsX7_room := goodIn_r _ [23, 3, 24, 25, 26, 27, 10, 28, 29, 30, 31, 32, 33, 34, 35, 41, 42, 43, 44, 45, 46, 47, 48, 49, 50, 51, 52, 53, 54, 55, 56, 57, 58, 59, 60, 61, 62, 63, 64, 65, 66, 67, 68, 69, 70, 71, 72, 73, 74, 75, 76, 77, 78, 79] (by decide +kernel) (by decide +kernel)
set_option maxRecDepth 20000 in
theorem gX7_empty_X7_room : GoodIn wsX7_empty (wsV RX7 149 RX7 yX7_room wsX7_room) := goodIn_app (goodIn_of _ (by decide +kernel)) ggX7_empty_X7_room
set_option maxRecDepth 20000 in
theorem ggX7_empty_X7_fills : GoodIn wsX7_empty wsX7_fills := goodIn_r _ [39, 3, 24, 2, 35, 40, 25, 26, 27, 10, 28, 29, 30, 31, 32, 33, 34, 41, 42, 43, 44, 45, 46, 47, 48, 49, 50, 51, 52, 53, 54, 55, 56, 57, 58, 59, 60, 61, 62, 63, 64, 65, 66, 67, 68, 69, 70, 71, 72, 73, 74, 75, 76, 77, 78, 79] (by decide +kernel) (by decide +kernel)
set_option maxRecDepth 20000 in
theorem gX7_empty_X7_fills : GoodIn wsX7_empty (wsV RX7 152 RX7 yX7_fills wsX7_fills) := goodIn_app (goodIn_of _ (by decide +kernel)) ggX7_empty_X7_fills
theorem dX7_empty_0 : decode cX7_empty 0 = .ok (.aload_n 0, 1) := by decide +kernel
theorem dX7_empty_1 : decode cX7_empty 1 = .ok (.iload_n 1, 1) := by decide +kernel
theorem dX7_empty_2 : decode cX7_empty 2 = .ok (.invokevirtual 103, 3) := by decide +kernel
theorem dX7_empty_5 : decode cX7_empty 5 = .ok (.ifCond .ne 5, 3) := by decide +kernel
theorem dX7_empty_8 : decode cX7_empty 8 = .ok (.iconst (-1), 1) := by decide +kernel
theorem dX7_empty_9 : decode cX7_empty 9 = .ok (.ireturn, 1) := by decide +kernel
theorem dX7_empty_10 : decode cX7_empty 10 = .ok (.iconst 0, 1) := by decide +kernel
theorem dX7_empty_11 : decode cX7_empty 11 = .ok (.istore_n 2, 1) := by decide +kernel
theorem dX7_empty_12 : decode cX7_empty 12 = .ok (.iconst 0, 1) := by decide +kernel
theorem dX7_empty_13 : decode cX7_empty 13 = .ok (.istore_n 3, 1) := by decide +kernel
theorem dX7_empty_14 : decode cX7_empty 14 = .ok (.iload_n 3, 1) := by decide +kernel
theorem dX7_empty_15 : decode cX7_empty 15 = .ok (.aload_n 0, 1) := by decide +kernel
theorem dX7_empty_16 : decode cX7_empty 16 = .ok (.getfield 32, 3) := by decide +kernel
theorem dX7_empty_19 : decode cX7_empty 19 = .ok (.iload_n 1, 1) := by decide +kernel
theorem dX7_empty_20 : decode cX7_empty 20 = .ok (.iaload, 1) := by decide +kernel
theorem dX7_empty_21 : decode cX7_empty 21 = .ok (.if_icmp .ge 21, 3) := by decide +kernel
theorem dX7_empty_24 : decode cX7_empty 24 = .ok (.iload_n 2, 1) := by decide +kernel
theorem dX7_empty_25 : decode cX7_empty 25 = .ok (.aload_n 0, 1) := by decide +kernel
theorem dX7_empty_26 : decode cX7_empty 26 = .ok (.iconst 3, 1) := by decide +kernel
theorem dX7_empty_27 : decode cX7_empty 27 = .ok (.iload_n 1, 1) := by decide +kernel
theorem dX7_empty_28 : decode cX7_empty 28 = .ok (.imul, 1) := by decide +kernel
theorem dX7_empty_29 : decode cX7_empty 29 = .ok (.iload_n 3, 1) := by decide +kernel
theorem dX7_empty_30 : decode cX7_empty 30 = .ok (.iadd, 1) := by decide +kernel
theorem dX7_empty_31 : decode cX7_empty 31 = .ok (.invokevirtual 124, 3) := by decide +kernel
theorem dX7_empty_34 : decode cX7_empty 34 = .ok (.iadd, 1) := by decide +kernel
theorem dX7_empty_35 : decode cX7_empty 35 = .ok (.istore_n 2, 1) := by decide +kernel
theorem dX7_empty_36 : decode cX7_empty 36 = .ok (.iinc 3 1, 3) := by decide +kernel
theorem dX7_empty_39 : decode cX7_empty 39 = .ok (.goto (-25), 3) := by decide +kernel
theorem dX7_empty_42 : decode cX7_empty 42 = .ok (.iload_n 2, 1) := by decide +kernel
theorem dX7_empty_43 : decode cX7_empty 43 = .ok (.aload_n 0, 1) := by decide +kernel
theorem dX7_empty_44 : decode cX7_empty 44 = .ok (.aload_n 0, 1) := by decide +kernel
theorem dX7_empty_45 : decode cX7_empty 45 = .ok (.getfield 16, 3) := by decide +kernel
theorem dX7_empty_48 : decode cX7_empty 48 = .ok (.iload_n 1, 1) := by decide +kernel
theorem dX7_empty_49 : decode cX7_empty 49 = .ok (.iaload, 1) := by decide +kernel
theorem dX7_empty_50 : decode cX7_empty 50 = .ok (.invokevirtual 149, 3) := by decide +kernel
theorem dX7_empty_53 : decode cX7_empty 53 = .ok (.isub, 1) := by decide +kernel
theorem dX7_empty_54 : decode cX7_empty 54 = .ok (.istore_n 3, 1) := by decide +kernel
theorem dX7_empty_55 : decode cX7_empty 55 = .ok (.iload_n 3, 1) := by decide +kernel
theorem dX7_empty_56 : decode cX7_empty 56 = .ok (.ifCond .le 27, 3) := by decide +kernel
theorem dX7_empty_59 : decode cX7_empty 59 = .ok (.aload_n 0, 1) := by decide +kernel
theorem dX7_empty_60 : decode cX7_empty 60 = .ok (.getfield 143, 3) := by decide +kernel
theorem dX7_empty_63 : decode cX7_empty 63 = .ok (.iload_n 3, 1) := by decide +kernel
theorem dX7_empty_64 : decode cX7_empty 64 = .ok (.sipush 1000, 3) := by decide +kernel
theorem dX7_empty_67 : decode cX7_empty 67 = .ok (.iadd, 1) := by decide +kernel
theorem dX7_empty_68 : decode cX7_empty 68 = .ok (.iconst 1, 1) := by decide +kernel
theorem dX7_empty_69 : decode cX7_empty 69 = .ok (.isub, 1) := by decide +kernel
theorem dX7_empty_70 : decode cX7_empty 70 = .ok (.sipush 1000, 3) := by decide +kernel
theorem dX7_empty_73 : decode cX7_empty 73 = .ok (.idiv, 1) := by decide +kernel
theorem dX7_empty_74 : decode cX7_empty 74 = .ok (.iadd, 1) := by decide +kernel
theorem dX7_empty_75 : decode cX7_empty 75 = .ok (.sipush 200, 3) := by decide +kernel
theorem dX7_empty_78 : decode cX7_empty 78 = .ok (.if_icmp .le 5, 3) := by decide +kernel
theorem dX7_empty_81 : decode cX7_empty 81 = .ok (.iconst (-1), 1) := by decide +kernel
theorem dX7_empty_82 : decode cX7_empty 82 = .ok (.ireturn, 1) := by decide +kernel
theorem dX7_empty_83 : decode cX7_empty 83 = .ok (.iconst 0, 1) := by decide +kernel
theorem dX7_empty_84 : decode cX7_empty 84 = .ok (.istore 4, 2) := by decide +kernel
theorem dX7_empty_86 : decode cX7_empty 86 = .ok (.iload 4, 2) := by decide +kernel
theorem dX7_empty_88 : decode cX7_empty 88 = .ok (.aload_n 0, 1) := by decide +kernel
theorem dX7_empty_89 : decode cX7_empty 89 = .ok (.getfield 32, 3) := by decide +kernel
theorem dX7_empty_92 : decode cX7_empty 92 = .ok (.iload_n 1, 1) := by decide +kernel
theorem dX7_empty_93 : decode cX7_empty 93 = .ok (.iaload, 1) := by decide +kernel
theorem dX7_empty_94 : decode cX7_empty 94 = .ok (.iconst 4, 1) := by decide +kernel
theorem dX7_empty_95 : decode cX7_empty 95 = .ok (.imul, 1) := by decide +kernel
theorem dX7_empty_96 : decode cX7_empty 96 = .ok (.if_icmp .ge 42, 3) := by decide +kernel
theorem dX7_empty_99 : decode cX7_empty 99 = .ok (.bipush 12, 2) := by decide +kernel
theorem dX7_empty_101 : decode cX7_empty 101 = .ok (.iload_n 1, 1) := by decide +kernel
theorem dX7_empty_102 : decode cX7_empty 102 = .ok (.imul, 1) := by decide +kernel
theorem dX7_empty_103 : decode cX7_empty 103 = .ok (.iload 4, 2) := by decide +kernel
theorem dX7_empty_105 : decode cX7_empty 105 = .ok (.iadd, 1) := by decide +kernel
theorem dX7_empty_106 : decode cX7_empty 106 = .ok (.istore 5, 2) := by decide +kernel
theorem dX7_empty_108 : decode cX7_empty 108 = .ok (.aload_n 0, 1) := by decide +kernel
theorem dX7_empty_109 : decode cX7_empty 109 = .ok (.iload_n 1, 1) := by decide +kernel
theorem dX7_empty_110 : decode cX7_empty 110 = .ok (.iload 4, 2) := by decide +kernel
theorem dX7_empty_112 : decode cX7_empty 112 = .ok (.iconst 4, 1) := by decide +kernel
theorem dX7_empty_113 : decode cX7_empty 113 = .ok (.irem, 1) := by decide +kernel
theorem dX7_empty_114 : decode cX7_empty 114 = .ok (.aload_n 0, 1) := by decide +kernel
theorem dX7_empty_115 : decode cX7_empty 115 = .ok (.getfield 47, 3) := by decide +kernel
theorem dX7_empty_118 : decode cX7_empty 118 = .ok (.iload 5, 2) := by decide +kernel
theorem dX7_empty_120 : decode cX7_empty 120 = .ok (.iaload, 1) := by decide +kernel
theorem dX7_empty_121 : decode cX7_empty 121 = .ok (.invokevirtual 152, 3) := by decide +kernel
theorem dX7_empty_124 : decode cX7_empty 124 = .ok (.aload_n 0, 1) := by decide +kernel
theorem dX7_empty_125 : decode cX7_empty 125 = .ok (.getfield 47, 3) := by decide +kernel
theorem dX7_empty_128 : decode cX7_empty 128 = .ok (.iload 5, 2) := by decide +kernel
theorem dX7_empty_130 : decode cX7_empty 130 = .ok (.iconst 0, 1) := by decide +kernel
theorem dX7_empty_131 : decode cX7_empty 131 = .ok (.iastore, 1) := by decide +kernel
theorem dX7_empty_132 : decode cX7_empty 132 = .ok (.iinc 4 1, 3) := by decide +kernel
theorem dX7_empty_135 : decode cX7_empty 135 = .ok (.goto (-49), 3) := by decide +kernel
theorem dX7_empty_138 : decode cX7_empty 138 = .ok (.aload_n 0, 1) := by decide +kernel
theorem dX7_empty_139 : decode cX7_empty 139 = .ok (.dup, 1) := by decide +kernel
theorem dX7_empty_140 : decode cX7_empty 140 = .ok (.getfield 156, 3) := by decide +kernel
theorem dX7_empty_143 : decode cX7_empty 143 = .ok (.iload_n 2, 1) := by decide +kernel
theorem dX7_empty_144 : decode cX7_empty 144 = .ok (.iadd, 1) := by decide +kernel
theorem dX7_empty_145 : decode cX7_empty 145 = .ok (.putfield 156, 3) := by decide +kernel
theorem dX7_empty_148 : decode cX7_empty 148 = .ok (.aload_n 0, 1) := by decide +kernel
theorem dX7_empty_149 : decode cX7_empty 149 = .ok (.getfield 74, 3) := by decide +kernel
theorem dX7_empty_152 : decode cX7_empty 152 = .ok (.aload_n 0, 1) := by decide +kernel
theorem dX7_empty_153 : decode cX7_empty 153 = .ok (.getfield 16, 3) := by decide +kernel
theorem dX7_empty_156 : decode cX7_empty 156 = .ok (.iload_n 1, 1) := by decide +kernel
theorem dX7_empty_157 : decode cX7_empty 157 = .ok (.iaload, 1) := by decide +kernel
theorem dX7_empty_158 : decode cX7_empty 158 = .ok (.dup2, 1) := by decide +kernel
theorem dX7_empty_159 : decode cX7_empty 159 = .ok (.iaload, 1) := by decide +kernel
theorem dX7_empty_160 : decode cX7_empty 160 = .ok (.iload_n 2, 1) := by decide +kernel
theorem dX7_empty_161 : decode cX7_empty 161 = .ok (.iadd, 1) := by decide +kernel
theorem dX7_empty_162 : decode cX7_empty 162 = .ok (.iastore, 1) := by decide +kernel
theorem dX7_empty_163 : decode cX7_empty 163 = .ok (.iload_n 2, 1) := by decide +kernel
theorem dX7_empty_164 : decode cX7_empty 164 = .ok (.ireturn, 1) := by decide +kernel
set_option maxRecDepth 20000 in
theorem ggX7_fills_X7_isFull : GoodIn wsX7_fills wsX7_isFull := goodIn_r _ [10, 11, 12, 13, 14, 15, 9, 16, 4, 17, 18, 19, 20, 21, 22, 23, 24, 25, 26, 27, 28, 29, 30, 31, 32, 33, 34, 35, 36, 37, 38, 39, 40, 41, 42, 43, 44, 45, 46, 47, 48, 49, 50, 51, 52, 53, 54, 55] (by decide +kernel) (by decide +kernel)
set_option maxRecDepth 20000 in
theorem gX7_fills_X7_isFull : GoodIn wsX7_fills (wsV RX7 146 RX7 yX7_isFull wsX7_isFull) := goodIn_app (goodIn_of _ (by decide +kernel)) ggX7_fills_X7_isFull
set_option maxRecDepth 20000 in
theorem ggX7_fills_X7_has : GoodIn wsX7_fills wsX7_has := goodIn_r _ [16, 4, 17, 18, 19, 20, 21, 22, 23, 24, 25, 26, 27, 28, 29, 30, 31, 32, 33, 34, 35, 36, 37, 38, 39, 40, 41, 42, 43, 44, 45, 46, 47, 48, 49, 50, 51, 52, 53, 54, 55] (by decide +kernel) (by decide +kernel)
set_option maxRecDepth 20000 in
theorem gX7_fills_X7_has : GoodIn wsX7_fills (wsV RX7 140 RX7 yX7_has wsX7_has) := goodIn_app (goodIn_of _ (by decide +kernel)) ggX7_fills_X7_has
theorem dX7_fills_0 : decode cX7_fills 0 = .ok (.iload_n 3, 1) := by decide +kernel
theorem dX7_fills_1 : decode cX7_fills 1 = .ok (.istore 4, 2) := by decide +kernel
theorem dX7_fills_3 : decode cX7_fills 3 = .ok (.iload 4, 2) := by decide +kernel
theorem dX7_fills_5 : decode cX7_fills 5 = .ok (.ifCond .le 149, 3) := by decide +kernel
theorem dX7_fills_8 : decode cX7_fills 8 = .ok (.iconst 0, 1) := by decide +kernel
theorem dX7_fills_9 : decode cX7_fills 9 = .ok (.istore 5, 2) := by decide +kernel
theorem dX7_fills_11 : decode cX7_fills 11 = .ok (.iload 5, 2) := by decide +kernel
theorem dX7_fills_13 : decode cX7_fills 13 = .ok (.aload_n 0, 1) := by decide +kernel
theorem dX7_fills_14 : decode cX7_fills 14 = .ok (.getfield 143, 3) := by decide +kernel
theorem dX7_fills_17 : decode cX7_fills 17 = .ok (.if_icmp .ge 34, 3) := by decide +kernel
theorem dX7_fills_20 : decode cX7_fills 20 = .ok (.aload_n 0, 1) := by decide +kernel
theorem dX7_fills_21 : decode cX7_fills 21 = .ok (.getfield 53, 3) := by decide +kernel
theorem dX7_fills_24 : decode cX7_fills 24 = .ok (.iload 5, 2) := by decide +kernel
theorem dX7_fills_26 : decode cX7_fills 26 = .ok (.iaload, 1) := by decide +kernel
theorem dX7_fills_27 : decode cX7_fills 27 = .ok (.aload_n 0, 1) := by decide +kernel
theorem dX7_fills_28 : decode cX7_fills 28 = .ok (.getfield 16, 3) := by decide +kernel
theorem dX7_fills_31 : decode cX7_fills 31 = .ok (.iload_n 1, 1) := by decide +kernel
theorem dX7_fills_32 : decode cX7_fills 32 = .ok (.iaload, 1) := by decide +kernel
theorem dX7_fills_33 : decode cX7_fills 33 = .ok (.if_icmp .ne 12, 3) := by decide +kernel
theorem dX7_fills_36 : decode cX7_fills 36 = .ok (.aload_n 0, 1) := by decide +kernel
theorem dX7_fills_37 : decode cX7_fills 37 = .ok (.iload 5, 2) := by decide +kernel
theorem dX7_fills_39 : decode cX7_fills 39 = .ok (.invokevirtual 146, 3) := by decide +kernel
theorem dX7_fills_42 : decode cX7_fills 42 = .ok (.ifCond .eq 9, 3) := by decide +kernel
theorem dX7_fills_45 : decode cX7_fills 45 = .ok (.iinc 5 1, 3) := by decide +kernel
theorem dX7_fills_48 : decode cX7_fills 48 = .ok (.goto (-37), 3) := by decide +kernel
theorem dX7_fills_51 : decode cX7_fills 51 = .ok (.iload 5, 2) := by decide +kernel
theorem dX7_fills_53 : decode cX7_fills 53 = .ok (.aload_n 0, 1) := by decide +kernel
theorem dX7_fills_54 : decode cX7_fills 54 = .ok (.getfield 143, 3) := by decide +kernel
theorem dX7_fills_57 : decode cX7_fills 57 = .ok (.if_icmp .ne 26, 3) := by decide +kernel
theorem dX7_fills_60 : decode cX7_fills 60 = .ok (.aload_n 0, 1) := by decide +kernel
theorem dX7_fills_61 : decode cX7_fills 61 = .ok (.getfield 53, 3) := by decide +kernel
theorem dX7_fills_64 : decode cX7_fills 64 = .ok (.iload 5, 2) := by decide +kernel
theorem dX7_fills_66 : decode cX7_fills 66 = .ok (.aload_n 0, 1) := by decide +kernel
theorem dX7_fills_67 : decode cX7_fills 67 = .ok (.getfield 16, 3) := by decide +kernel
theorem dX7_fills_70 : decode cX7_fills 70 = .ok (.iload_n 1, 1) := by decide +kernel
theorem dX7_fills_71 : decode cX7_fills 71 = .ok (.iaload, 1) := by decide +kernel
theorem dX7_fills_72 : decode cX7_fills 72 = .ok (.iastore, 1) := by decide +kernel
theorem dX7_fills_73 : decode cX7_fills 73 = .ok (.aload_n 0, 1) := by decide +kernel
theorem dX7_fills_74 : decode cX7_fills 74 = .ok (.dup, 1) := by decide +kernel
theorem dX7_fills_75 : decode cX7_fills 75 = .ok (.getfield 143, 3) := by decide +kernel
theorem dX7_fills_78 : decode cX7_fills 78 = .ok (.iconst 1, 1) := by decide +kernel
theorem dX7_fills_79 : decode cX7_fills 79 = .ok (.iadd, 1) := by decide +kernel
theorem dX7_fills_80 : decode cX7_fills 80 = .ok (.putfield 143, 3) := by decide +kernel
theorem dX7_fills_83 : decode cX7_fills 83 = .ok (.sipush 1000, 3) := by decide +kernel
theorem dX7_fills_86 : decode cX7_fills 86 = .ok (.aload_n 0, 1) := by decide +kernel
theorem dX7_fills_87 : decode cX7_fills 87 = .ok (.iload 5, 2) := by decide +kernel
theorem dX7_fills_89 : decode cX7_fills 89 = .ok (.invokevirtual 140, 3) := by decide +kernel
theorem dX7_fills_92 : decode cX7_fills 92 = .ok (.isub, 1) := by decide +kernel
theorem dX7_fills_93 : decode cX7_fills 93 = .ok (.istore 6, 2) := by decide +kernel
theorem dX7_fills_95 : decode cX7_fills 95 = .ok (.iload 4, 2) := by decide +kernel
theorem dX7_fills_97 : decode cX7_fills 97 = .ok (.iload 6, 2) := by decide +kernel
theorem dX7_fills_99 : decode cX7_fills 99 = .ok (.if_icmp .ge 8, 3) := by decide +kernel
theorem dX7_fills_102 : decode cX7_fills 102 = .ok (.iload 4, 2) := by decide +kernel
theorem dX7_fills_104 : decode cX7_fills 104 = .ok (.goto 5, 3) := by decide +kernel
theorem dX7_fills_107 : decode cX7_fills 107 = .ok (.iload 6, 2) := by decide +kernel
theorem dX7_fills_109 : decode cX7_fills 109 = .ok (.istore 7, 2) := by decide +kernel
theorem dX7_fills_111 : decode cX7_fills 111 = .ok (.aload_n 0, 1) := by decide +kernel
theorem dX7_fills_112 : decode cX7_fills 112 = .ok (.getfield 56, 3) := by decide +kernel
theorem dX7_fills_115 : decode cX7_fills 115 = .ok (.iconst 4, 1) := by decide +kernel
theorem dX7_fills_116 : decode cX7_fills 116 = .ok (.iload 5, 2) := by decide +kernel
theorem dX7_fills_118 : decode cX7_fills 118 = .ok (.imul, 1) := by decide +kernel
theorem dX7_fills_119 : decode cX7_fills 119 = .ok (.iload_n 2, 1) := by decide +kernel
theorem dX7_fills_120 : decode cX7_fills 120 = .ok (.iadd, 1) := by decide +kernel
theorem dX7_fills_121 : decode cX7_fills 121 = .ok (.dup2, 1) := by decide +kernel
theorem dX7_fills_122 : decode cX7_fills 122 = .ok (.iaload, 1) := by decide +kernel
theorem dX7_fills_123 : decode cX7_fills 123 = .ok (.iload 7, 2) := by decide +kernel
theorem dX7_fills_125 : decode cX7_fills 125 = .ok (.iadd, 1) := by decide +kernel
theorem dX7_fills_126 : decode cX7_fills 126 = .ok (.iastore, 1) := by decide +kernel
theorem dX7_fills_127 : decode cX7_fills 127 = .ok (.aload_n 0, 1) := by decide +kernel
theorem dX7_fills_128 : decode cX7_fills 128 = .ok (.getfield 59, 3) := by decide +kernel
theorem dX7_fills_131 : decode cX7_fills 131 = .ok (.bipush 60, 2) := by decide +kernel
theorem dX7_fills_133 : decode cX7_fills 133 = .ok (.iload 5, 2) := by decide +kernel
theorem dX7_fills_135 : decode cX7_fills 135 = .ok (.imul, 1) := by decide +kernel
theorem dX7_fills_136 : decode cX7_fills 136 = .ok (.iload_n 1, 1) := by decide +kernel
theorem dX7_fills_137 : decode cX7_fills 137 = .ok (.iadd, 1) := by decide +kernel
theorem dX7_fills_138 : decode cX7_fills 138 = .ok (.dup2, 1) := by decide +kernel
theorem dX7_fills_139 : decode cX7_fills 139 = .ok (.iaload, 1) := by decide +kernel
theorem dX7_fills_140 : decode cX7_fills 140 = .ok (.iload 7, 2) := by decide +kernel
theorem dX7_fills_142 : decode cX7_fills 142 = .ok (.iadd, 1) := by decide +kernel
theorem dX7_fills_143 : decode cX7_fills 143 = .ok (.iastore, 1) := by decide +kernel
theorem dX7_fills_144 : decode cX7_fills 144 = .ok (.iload 4, 2) := by decide +kernel
theorem dX7_fills_146 : decode cX7_fills 146 = .ok (.iload 7, 2) := by decide +kernel
theorem dX7_fills_148 : decode cX7_fills 148 = .ok (.isub, 1) := by decide +kernel
theorem dX7_fills_149 : decode cX7_fills 149 = .ok (.istore 4, 2) := by decide +kernel
theorem dX7_fills_151 : decode cX7_fills 151 = .ok (.goto (-148), 3) := by decide +kernel
theorem dX7_fills_154 : decode cX7_fills 154 = .ok (.return_, 1) := by decide +kernel
set_option maxRecDepth 20000 in
theorem ggX7_isBarrel_X7_in : GoodIn wsX7_isBarrel wsX7_in := goodIn_r _ [5] (by decide +kernel) (by decide +kernel)
set_option maxRecDepth 20000 in
theorem gX7_isBarrel_X7_in : GoodIn wsX7_isBarrel (va_wsS RX7 96 yX7_in wsX7_in) := goodIn_app (goodIn_of _ (by decide +kernel)) ggX7_isBarrel_X7_in
theorem dX7_isBarrel_0 : decode cX7_isBarrel 0 = .ok (.iload_n 1, 1) := by decide +kernel
theorem dX7_isBarrel_1 : decode cX7_isBarrel 1 = .ok (.iconst 0, 1) := by decide +kernel
theorem dX7_isBarrel_2 : decode cX7_isBarrel 2 = .ok (.aload_n 0, 1) := by decide +kernel
theorem dX7_isBarrel_3 : decode cX7_isBarrel 3 = .ok (.getfield 143, 3) := by decide +kernel
theorem dX7_isBarrel_6 : decode cX7_isBarrel 6 = .ok (.iconst 1, 1) := by decide +kernel
theorem dX7_isBarrel_7 : decode cX7_isBarrel 7 = .ok (.isub, 1) := by decide +kernel
theorem dX7_isBarrel_8 : decode cX7_isBarrel 8 = .ok (.invokestatic 96, 3) := by decide +kernel
theorem dX7_isBarrel_11 : decode cX7_isBarrel 11 = .ok (.ireturn, 1) := by decide +kernel
set_option maxRecDepth 20000 in
theorem ggX7_grade_X7_has : GoodIn wsX7_grade wsX7_has := goodIn_r _ [6, 1, 7, 8, 9, 10, 11, 12, 13, 14, 15, 16, 17, 18, 19, 20, 21, 22, 23, 24, 25, 26, 27, 28, 29, 30, 31, 32, 33, 34, 35, 36, 37, 38, 39, 40, 41, 42, 43, 44, 45] (by decide +kernel) (by decide +kernel)
set_option maxRecDepth 20000 in
theorem gX7_grade_X7_has : GoodIn wsX7_grade (wsV RX7 140 RX7 yX7_has wsX7_has) := goodIn_app (goodIn_of _ (by decide +kernel)) ggX7_grade_X7_has
theorem dX7_grade_0 : decode cX7_grade 0 = .ok (.iconst 0, 1) := by decide +kernel
theorem dX7_grade_1 : decode cX7_grade 1 = .ok (.istore_n 2, 1) := by decide +kernel
theorem dX7_grade_2 : decode cX7_grade 2 = .ok (.iconst 0, 1) := by decide +kernel
theorem dX7_grade_3 : decode cX7_grade 3 = .ok (.istore_n 3, 1) := by decide +kernel
theorem dX7_grade_4 : decode cX7_grade 4 = .ok (.iload_n 3, 1) := by decide +kernel
theorem dX7_grade_5 : decode cX7_grade 5 = .ok (.iconst 4, 1) := by decide +kernel
theorem dX7_grade_6 : decode cX7_grade 6 = .ok (.if_icmp .ge 24, 3) := by decide +kernel
theorem dX7_grade_9 : decode cX7_grade 9 = .ok (.iload_n 2, 1) := by decide +kernel
theorem dX7_grade_10 : decode cX7_grade 10 = .ok (.iload_n 3, 1) := by decide +kernel
theorem dX7_grade_11 : decode cX7_grade 11 = .ok (.aload_n 0, 1) := by decide +kernel
theorem dX7_grade_12 : decode cX7_grade 12 = .ok (.getfield 56, 3) := by decide +kernel
theorem dX7_grade_15 : decode cX7_grade 15 = .ok (.iconst 4, 1) := by decide +kernel
theorem dX7_grade_16 : decode cX7_grade 16 = .ok (.iload_n 1, 1) := by decide +kernel
theorem dX7_grade_17 : decode cX7_grade 17 = .ok (.imul, 1) := by decide +kernel
theorem dX7_grade_18 : decode cX7_grade 18 = .ok (.iload_n 3, 1) := by decide +kernel
theorem dX7_grade_19 : decode cX7_grade 19 = .ok (.iadd, 1) := by decide +kernel
theorem dX7_grade_20 : decode cX7_grade 20 = .ok (.iaload, 1) := by decide +kernel
theorem dX7_grade_21 : decode cX7_grade 21 = .ok (.imul, 1) := by decide +kernel
theorem dX7_grade_22 : decode cX7_grade 22 = .ok (.iadd, 1) := by decide +kernel
theorem dX7_grade_23 : decode cX7_grade 23 = .ok (.istore_n 2, 1) := by decide +kernel
theorem dX7_grade_24 : decode cX7_grade 24 = .ok (.iinc 3 1, 3) := by decide +kernel
theorem dX7_grade_27 : decode cX7_grade 27 = .ok (.goto (-23), 3) := by decide +kernel
theorem dX7_grade_30 : decode cX7_grade 30 = .ok (.iload_n 2, 1) := by decide +kernel
theorem dX7_grade_31 : decode cX7_grade 31 = .ok (.aload_n 0, 1) := by decide +kernel
theorem dX7_grade_32 : decode cX7_grade 32 = .ok (.iload_n 1, 1) := by decide +kernel
theorem dX7_grade_33 : decode cX7_grade 33 = .ok (.invokevirtual 140, 3) := by decide +kernel
theorem dX7_grade_36 : decode cX7_grade 36 = .ok (.idiv, 1) := by decide +kernel
theorem dX7_grade_37 : decode cX7_grade 37 = .ok (.ireturn, 1) := by decide +kernel
set_option maxRecDepth 20000 in
theorem ggX7_barrel_X7_isBarrel : GoodIn wsX7_barrel wsX7_isBarrel := goodIn_r _ [9, 10, 11, 12, 8, 13, 26, 27, 28, 29, 30, 31, 32, 33, 34, 35, 36, 37, 38, 39, 40, 41, 42, 43, 44, 45, 46, 47, 48, 49, 50, 51, 52, 53, 54, 55, 56, 57, 58, 59, 60, 61, 62, 63, 64] (by decide +kernel) (by decide +kernel)
set_option maxRecDepth 20000 in
theorem gX7_barrel_X7_isBarrel : GoodIn wsX7_barrel (wsV RX7 159 RX7 yX7_isBarrel wsX7_isBarrel) := goodIn_app (goodIn_of _ (by decide +kernel)) ggX7_barrel_X7_isBarrel
set_option maxRecDepth 20000 in
theorem ggX7_barrel_X7_in : GoodIn wsX7_barrel wsX7_in := goodIn_r _ [13] (by decide +kernel) (by decide +kernel)
set_option maxRecDepth 20000 in
theorem gX7_barrel_X7_in : GoodIn wsX7_barrel (va_wsS RX7 96 yX7_in wsX7_in) := goodIn_app (goodIn_of _ (by decide +kernel)) ggX7_barrel_X7_in
set_option maxRecDepth 20000 in
theorem ggX7_barrel_X7_has : GoodIn wsX7_barrel wsX7_has := goodIn_r _ [17, 1, 26, 27, 28, 29, 30, 31, 32, 33, 34, 35, 36, 37, 38, 39, 40, 41, 42, 43, 44, 45, 46, 47, 48, 49, 50, 51, 52, 53, 54, 55, 56, 57, 58, 59, 60, 61, 62, 63, 64] (by decide +kernel) (by decide +kernel)
set_option maxRecDepth 20000 in
theorem gX7_barrel_X7_has : GoodIn wsX7_barrel (wsV RX7 140 RX7 yX7_has wsX7_has) := goodIn_app (goodIn_of _ (by decide +kernel)) ggX7_barrel_X7_has
set_option maxRecDepth 20000 in
theorem ggX7_barrel_X7_grade : GoodIn wsX7_barrel wsX7_grade := goodIn_r _ [21, 1, 14, 15, 16, 8, 17, 26, 27, 28, 29, 30, 31, 32, 33, 34, 35, 36, 37, 38, 39, 40, 41, 42, 43, 44, 45, 46, 47, 48, 49, 50, 51, 52, 53, 54, 55, 56, 57, 58, 59, 60, 61, 62, 63, 64] (by decide +kernel) (by decide +kernel)
set_option maxRecDepth 20000 in
theorem gX7_barrel_X7_grade : GoodIn wsX7_barrel (wsV RX7 162 RX7 yX7_grade wsX7_grade) := goodIn_app (goodIn_of _ (by decide +kernel)) ggX7_barrel_X7_grade
set_option maxRecDepth 20000 in
theorem ggX7_barrel_X7_isFull : GoodIn wsX7_barrel wsX7_isFull := goodIn_r _ [25, 3, 4, 14, 15, 16, 8, 17, 1, 26, 27, 28, 29, 30, 31, 32, 33, 34, 35, 36, 37, 38, 39, 40, 41, 42, 43, 44, 45, 46, 47, 48, 49, 50, 51, 52, 53, 54, 55, 56, 57, 58, 59, 60, 61, 62, 63, 64] (by decide +kernel) (by decide +kernel)
set_option maxRecDepth 20000 in
theorem gX7_barrel_X7_isFull : GoodIn wsX7_barrel (wsV RX7 146 RX7 yX7_isFull wsX7_isFull) := goodIn_app (goodIn_of _ (by decide +kernel)) ggX7_barrel_X7_isFull
theorem dX7_barrel_0 : decode cX7_barrel 0 = .ok (.aload_n 0, 1) := by decide +kernel
theorem dX7_barrel_1 : decode cX7_barrel 1 = .ok (.iload_n 1, 1) := by decide +kernel
theorem dX7_barrel_2 : decode cX7_barrel 2 = .ok (.invokevirtual 159, 3) := by decide +kernel
theorem dX7_barrel_5 : decode cX7_barrel 5 = .ok (.ifCond .ne 5, 3) := by decide +kernel
theorem dX7_barrel_8 : decode cX7_barrel 8 = .ok (.iconst (-1), 1) := by decide +kernel
theorem dX7_barrel_9 : decode cX7_barrel 9 = .ok (.ireturn, 1) := by decide +kernel
theorem dX7_barrel_10 : decode cX7_barrel 10 = .ok (.iload_n 2, 1) := by decide +kernel
theorem dX7_barrel_11 : decode cX7_barrel 11 = .ok (.iconst 1, 1) := by decide +kernel
theorem dX7_barrel_12 : decode cX7_barrel 12 = .ok (.iconst 4, 1) := by decide +kernel
theorem dX7_barrel_13 : decode cX7_barrel 13 = .ok (.invokestatic 96, 3) := by decide +kernel
theorem dX7_barrel_16 : decode cX7_barrel 16 = .ok (.ifCond .eq 16, 3) := by decide +kernel
theorem dX7_barrel_19 : decode cX7_barrel 19 = .ok (.aload_n 0, 1) := by decide +kernel
theorem dX7_barrel_20 : decode cX7_barrel 20 = .ok (.getfield 56, 3) := by decide +kernel
theorem dX7_barrel_23 : decode cX7_barrel 23 = .ok (.iconst 4, 1) := by decide +kernel
theorem dX7_barrel_24 : decode cX7_barrel 24 = .ok (.iload_n 1, 1) := by decide +kernel
theorem dX7_barrel_25 : decode cX7_barrel 25 = .ok (.imul, 1) := by decide +kernel
theorem dX7_barrel_26 : decode cX7_barrel 26 = .ok (.iload_n 2, 1) := by decide +kernel
theorem dX7_barrel_27 : decode cX7_barrel 27 = .ok (.iadd, 1) := by decide +kernel
theorem dX7_barrel_28 : decode cX7_barrel 28 = .ok (.iconst 1, 1) := by decide +kernel
theorem dX7_barrel_29 : decode cX7_barrel 29 = .ok (.isub, 1) := by decide +kernel
theorem dX7_barrel_30 : decode cX7_barrel 30 = .ok (.iaload, 1) := by decide +kernel
theorem dX7_barrel_31 : decode cX7_barrel 31 = .ok (.ireturn, 1) := by decide +kernel
theorem dX7_barrel_32 : decode cX7_barrel 32 = .ok (.iload_n 2, 1) := by decide +kernel
theorem dX7_barrel_33 : decode cX7_barrel 33 = .ok (.tableswitch 118 0 9 #[55, 118, 118, 118, 118, 61, 67, 74, 88, 103], 55) := by decide +kernel
theorem dX7_barrel_88 : decode cX7_barrel 88 = .ok (.aload_n 0, 1) := by decide +kernel
theorem dX7_barrel_89 : decode cX7_barrel 89 = .ok (.iload_n 1, 1) := by decide +kernel
theorem dX7_barrel_90 : decode cX7_barrel 90 = .ok (.invokevirtual 140, 3) := by decide +kernel
theorem dX7_barrel_93 : decode cX7_barrel 93 = .ok (.ireturn, 1) := by decide +kernel
theorem dX7_barrel_94 : decode cX7_barrel 94 = .ok (.aload_n 0, 1) := by decide +kernel
theorem dX7_barrel_95 : decode cX7_barrel 95 = .ok (.iload_n 1, 1) := by decide +kernel
theorem dX7_barrel_96 : decode cX7_barrel 96 = .ok (.invokevirtual 162, 3) := by decide +kernel
theorem dX7_barrel_99 : decode cX7_barrel 99 = .ok (.ireturn, 1) := by decide +kernel
theorem dX7_barrel_100 : decode cX7_barrel 100 = .ok (.aload_n 0, 1) := by decide +kernel
theorem dX7_barrel_101 : decode cX7_barrel 101 = .ok (.getfield 53, 3) := by decide +kernel
theorem dX7_barrel_104 : decode cX7_barrel 104 = .ok (.iload_n 1, 1) := by decide +kernel
theorem dX7_barrel_105 : decode cX7_barrel 105 = .ok (.iaload, 1) := by decide +kernel
theorem dX7_barrel_106 : decode cX7_barrel 106 = .ok (.ireturn, 1) := by decide +kernel
theorem dX7_barrel_107 : decode cX7_barrel 107 = .ok (.aload_n 0, 1) := by decide +kernel
theorem dX7_barrel_108 : decode cX7_barrel 108 = .ok (.iload_n 1, 1) := by decide +kernel
theorem dX7_barrel_109 : decode cX7_barrel 109 = .ok (.invokevirtual 146, 3) := by decide +kernel
theorem dX7_barrel_112 : decode cX7_barrel 112 = .ok (.ifCond .eq 7, 3) := by decide +kernel
theorem dX7_barrel_115 : decode cX7_barrel 115 = .ok (.iconst 1, 1) := by decide +kernel
theorem dX7_barrel_116 : decode cX7_barrel 116 = .ok (.goto 4, 3) := by decide +kernel
theorem dX7_barrel_119 : decode cX7_barrel 119 = .ok (.iconst 0, 1) := by decide +kernel
theorem dX7_barrel_120 : decode cX7_barrel 120 = .ok (.ireturn, 1) := by decide +kernel
theorem dX7_barrel_121 : decode cX7_barrel 121 = .ok (.aload_n 0, 1) := by decide +kernel
theorem dX7_barrel_122 : decode cX7_barrel 122 = .ok (.getfield 62, 3) := by decide +kernel
theorem dX7_barrel_125 : decode cX7_barrel 125 = .ok (.iload_n 1, 1) := by decide +kernel
theorem dX7_barrel_126 : decode cX7_barrel 126 = .ok (.baload, 1) := by decide +kernel
theorem dX7_barrel_127 : decode cX7_barrel 127 = .ok (.ifCond .eq 7, 3) := by decide +kernel
theorem dX7_barrel_130 : decode cX7_barrel 130 = .ok (.iconst 1, 1) := by decide +kernel
theorem dX7_barrel_131 : decode cX7_barrel 131 = .ok (.goto 4, 3) := by decide +kernel
theorem dX7_barrel_134 : decode cX7_barrel 134 = .ok (.iconst 0, 1) := by decide +kernel
theorem dX7_barrel_135 : decode cX7_barrel 135 = .ok (.ireturn, 1) := by decide +kernel
theorem dX7_barrel_136 : decode cX7_barrel 136 = .ok (.aload_n 0, 1) := by decide +kernel
theorem dX7_barrel_137 : decode cX7_barrel 137 = .ok (.getfield 65, 3) := by decide +kernel
theorem dX7_barrel_140 : decode cX7_barrel 140 = .ok (.iload_n 1, 1) := by decide +kernel
theorem dX7_barrel_141 : decode cX7_barrel 141 = .ok (.baload, 1) := by decide +kernel
theorem dX7_barrel_142 : decode cX7_barrel 142 = .ok (.ifCond .eq 7, 3) := by decide +kernel
theorem dX7_barrel_145 : decode cX7_barrel 145 = .ok (.iconst 1, 1) := by decide +kernel
theorem dX7_barrel_146 : decode cX7_barrel 146 = .ok (.goto 4, 3) := by decide +kernel
theorem dX7_barrel_149 : decode cX7_barrel 149 = .ok (.iconst 0, 1) := by decide +kernel
theorem dX7_barrel_150 : decode cX7_barrel 150 = .ok (.ireturn, 1) := by decide +kernel
theorem dX7_barrel_151 : decode cX7_barrel 151 = .ok (.iconst (-1), 1) := by decide +kernel
theorem dX7_barrel_152 : decode cX7_barrel 152 = .ok (.ireturn, 1) := by decide +kernel
set_option maxRecDepth 20000 in
theorem ggX7_from_X7_isBarrel : GoodIn wsX7_from wsX7_isBarrel := goodIn_r _ [6, 7, 8, 9, 5, 10, 16, 17, 18, 19, 20, 21, 22, 23, 24, 25, 26, 27, 28, 29, 30, 31, 32, 33, 34, 35, 36, 37, 38, 39, 40, 41, 42, 43, 44, 45, 46, 47, 48, 49, 50, 51, 52, 53, 54] (by decide +kernel) (by decide +kernel)
set_option maxRecDepth 20000 in
theorem gX7_from_X7_isBarrel : GoodIn wsX7_from (wsV RX7 159 RX7 yX7_isBarrel wsX7_isBarrel) := goodIn_app (goodIn_of _ (by decide +kernel)) ggX7_from_X7_isBarrel
set_option maxRecDepth 20000 in
theorem ggX7_from_X7_isTree : GoodIn wsX7_from wsX7_isTree := goodIn_r _ [14, 15, 8, 9, 5, 10, 16, 17, 18, 19, 20, 21, 22, 23, 24, 25, 26, 27, 28, 29, 30, 31, 32, 33, 34, 35, 36, 37, 38, 39, 40, 41, 42, 43, 44, 45, 46, 47, 48, 49, 50, 51, 52, 53, 54] (by decide +kernel) (by decide +kernel)
set_option maxRecDepth 20000 in
theorem gX7_from_X7_isTree : GoodIn wsX7_from (wsV RX7 103 RX7 yX7_isTree wsX7_isTree) := goodIn_app (goodIn_of _ (by decide +kernel)) ggX7_from_X7_isTree
theorem dX7_from_0 : decode cX7_from 0 = .ok (.aload_n 0, 1) := by decide +kernel
theorem dX7_from_1 : decode cX7_from 1 = .ok (.iload_n 1, 1) := by decide +kernel
theorem dX7_from_2 : decode cX7_from 2 = .ok (.invokevirtual 159, 3) := by decide +kernel
theorem dX7_from_5 : decode cX7_from 5 = .ok (.ifCond .eq 25, 3) := by decide +kernel
theorem dX7_from_8 : decode cX7_from 8 = .ok (.aload_n 0, 1) := by decide +kernel
theorem dX7_from_9 : decode cX7_from 9 = .ok (.iload_n 2, 1) := by decide +kernel
theorem dX7_from_10 : decode cX7_from 10 = .ok (.invokevirtual 103, 3) := by decide +kernel
theorem dX7_from_13 : decode cX7_from 13 = .ok (.ifCond .eq 17, 3) := by decide +kernel
theorem dX7_from_16 : decode cX7_from 16 = .ok (.aload_n 0, 1) := by decide +kernel
theorem dX7_from_17 : decode cX7_from 17 = .ok (.getfield 59, 3) := by decide +kernel
theorem dX7_from_20 : decode cX7_from 20 = .ok (.bipush 60, 2) := by decide +kernel
theorem dX7_from_22 : decode cX7_from 22 = .ok (.iload_n 1, 1) := by decide +kernel
theorem dX7_from_23 : decode cX7_from 23 = .ok (.imul, 1) := by decide +kernel
theorem dX7_from_24 : decode cX7_from 24 = .ok (.iload_n 2, 1) := by decide +kernel
theorem dX7_from_25 : decode cX7_from 25 = .ok (.iadd, 1) := by decide +kernel
theorem dX7_from_26 : decode cX7_from 26 = .ok (.iaload, 1) := by decide +kernel
theorem dX7_from_27 : decode cX7_from 27 = .ok (.goto 4, 3) := by decide +kernel
theorem dX7_from_30 : decode cX7_from 30 = .ok (.iconst (-1), 1) := by decide +kernel
theorem dX7_from_31 : decode cX7_from 31 = .ok (.ireturn, 1) := by decide +kernel
set_option maxRecDepth 20000 in
theorem ggX7_still_X7_isBarrel : GoodIn wsX7_still wsX7_isBarrel := goodIn_r _ [9, 10, 11, 12, 8, 13, 23, 24, 25, 26, 27, 28, 29, 30, 31, 32, 33, 34, 35, 36, 37, 38, 39, 40, 41, 42, 43, 44, 45, 46, 47, 48, 49, 50, 51, 52, 53, 54, 55, 56, 57, 58, 59, 60, 61] (by decide +kernel) (by decide +kernel)
set_option maxRecDepth 20000 in
theorem gX7_still_X7_isBarrel : GoodIn wsX7_still (wsV RX7 159 RX7 yX7_isBarrel wsX7_isBarrel) := goodIn_app (goodIn_of _ (by decide +kernel)) ggX7_still_X7_isBarrel
set_option maxRecDepth 20000 in
theorem ggX7_still_X7_has : GoodIn wsX7_still wsX7_has := goodIn_r _ [17, 18, 23, 24, 25, 26, 27, 28, 29, 30, 31, 32, 33, 34, 35, 36, 37, 38, 39, 40, 41, 42, 43, 44, 45, 46, 47, 48, 49, 50, 51, 52, 53, 54, 55, 56, 57, 58, 59, 60, 61] (by decide +kernel) (by decide +kernel)
set_option maxRecDepth 20000 in
theorem gX7_still_X7_has : GoodIn wsX7_still (wsV RX7 140 RX7 yX7_has wsX7_has) := goodIn_app (goodIn_of _ (by decide +kernel)) ggX7_still_X7_has
set_option maxRecDepth 20000 in
theorem ggX7_still_X7_grade : GoodIn wsX7_still wsX7_grade := goodIn_r _ [22, 18, 14, 15, 16, 8, 17, 23, 24, 25, 26, 27, 28, 29, 30, 31, 32, 33, 34, 35, 36, 37, 38, 39, 40, 41, 42, 43, 44, 45, 46, 47, 48, 49, 50, 51, 52, 53, 54, 55, 56, 57, 58, 59, 60, 61] (by decide +kernel) (by decide +kernel)
set_option maxRecDepth 20000 in
theorem gX7_still_X7_grade : GoodIn wsX7_still (wsV RX7 162 RX7 yX7_grade wsX7_grade) := goodIn_app (goodIn_of _ (by decide +kernel)) ggX7_still_X7_grade
theorem dX7_still_0 : decode cX7_still 0 = .ok (.aload_n 0, 1) := by decide +kernel
theorem dX7_still_1 : decode cX7_still 1 = .ok (.iload_n 1, 1) := by decide +kernel
theorem dX7_still_2 : decode cX7_still 2 = .ok (.invokevirtual 159, 3) := by decide +kernel
theorem dX7_still_5 : decode cX7_still 5 = .ok (.ifCond .eq 21, 3) := by decide +kernel
theorem dX7_still_8 : decode cX7_still 8 = .ok (.aload_n 0, 1) := by decide +kernel
theorem dX7_still_9 : decode cX7_still 9 = .ok (.getfield 62, 3) := by decide +kernel
theorem dX7_still_12 : decode cX7_still 12 = .ok (.iload_n 1, 1) := by decide +kernel
theorem dX7_still_13 : decode cX7_still 13 = .ok (.baload, 1) := by decide +kernel
end
section
theorem dX7_still_14 : decode cX7_still 14 = .ok (.ifCond .ne 12, 3) := by decide +kernel
theorem dX7_still_17 : decode cX7_still 17 = .ok (.aload_n 0, 1) := by decide +kernel
theorem dX7_still_18 : decode cX7_still 18 = .ok (.getfield 65, 3) := by decide +kernel
theorem dX7_still_21 : decode cX7_still 21 = .ok (.iload_n 1, 1) := by decide +kernel
theorem dX7_still_22 : decode cX7_still 22 = .ok (.baload, 1) := by decide +kernel
theorem dX7_still_23 : decode cX7_still 23 = .ok (.ifCond .eq 5, 3) := by decide +kernel
theorem dX7_still_26 : decode cX7_still 26 = .ok (.iconst (-1), 1) := by decide +kernel
theorem dX7_still_27 : decode cX7_still 27 = .ok (.ireturn, 1) := by decide +kernel
theorem dX7_still_28 : decode cX7_still 28 = .ok (.aload_n 0, 1) := by decide +kernel
theorem dX7_still_29 : decode cX7_still 29 = .ok (.getfield 62, 3) := by decide +kernel
theorem dX7_still_32 : decode cX7_still 32 = .ok (.iload_n 1, 1) := by decide +kernel
theorem dX7_still_33 : decode cX7_still 33 = .ok (.iconst 1, 1) := by decide +kernel
theorem dX7_still_34 : decode cX7_still 34 = .ok (.bastore, 1) := by decide +kernel
theorem dX7_still_35 : decode cX7_still 35 = .ok (.aload_n 0, 1) := by decide +kernel
theorem dX7_still_36 : decode cX7_still 36 = .ok (.iload_n 1, 1) := by decide +kernel
theorem dX7_still_37 : decode cX7_still 37 = .ok (.invokevirtual 140, 3) := by decide +kernel
theorem dX7_still_40 : decode cX7_still 40 = .ok (.iconst 5, 1) := by decide +kernel
theorem dX7_still_41 : decode cX7_still 41 = .ok (.idiv, 1) := by decide +kernel
theorem dX7_still_42 : decode cX7_still 42 = .ok (.istore_n 2, 1) := by decide +kernel
theorem dX7_still_43 : decode cX7_still 43 = .ok (.aload_n 0, 1) := by decide +kernel
theorem dX7_still_44 : decode cX7_still 44 = .ok (.iload_n 1, 1) := by decide +kernel
theorem dX7_still_45 : decode cX7_still 45 = .ok (.invokevirtual 140, 3) := by decide +kernel
theorem dX7_still_48 : decode cX7_still 48 = .ok (.bipush 70, 2) := by decide +kernel
theorem dX7_still_50 : decode cX7_still 50 = .ok (.iconst 5, 1) := by decide +kernel
theorem dX7_still_51 : decode cX7_still 51 = .ok (.aload_n 0, 1) := by decide +kernel
theorem dX7_still_52 : decode cX7_still 52 = .ok (.iload_n 1, 1) := by decide +kernel
theorem dX7_still_53 : decode cX7_still 53 = .ok (.invokevirtual 162, 3) := by decide +kernel
theorem dX7_still_56 : decode cX7_still 56 = .ok (.imul, 1) := by decide +kernel
theorem dX7_still_57 : decode cX7_still 57 = .ok (.isub, 1) := by decide +kernel
theorem dX7_still_58 : decode cX7_still 58 = .ok (.imul, 1) := by decide +kernel
theorem dX7_still_59 : decode cX7_still 59 = .ok (.bipush 100, 2) := by decide +kernel
theorem dX7_still_61 : decode cX7_still 61 = .ok (.idiv, 1) := by decide +kernel
theorem dX7_still_62 : decode cX7_still 62 = .ok (.istore_n 3, 1) := by decide +kernel
theorem dX7_still_63 : decode cX7_still 63 = .ok (.aload_n 0, 1) := by decide +kernel
theorem dX7_still_64 : decode cX7_still 64 = .ok (.dup, 1) := by decide +kernel
theorem dX7_still_65 : decode cX7_still 65 = .ok (.getfield 165, 3) := by decide +kernel
theorem dX7_still_68 : decode cX7_still 68 = .ok (.iload_n 2, 1) := by decide +kernel
theorem dX7_still_69 : decode cX7_still 69 = .ok (.iadd, 1) := by decide +kernel
theorem dX7_still_70 : decode cX7_still 70 = .ok (.putfield 165, 3) := by decide +kernel
theorem dX7_still_73 : decode cX7_still 73 = .ok (.aload_n 0, 1) := by decide +kernel
theorem dX7_still_74 : decode cX7_still 74 = .ok (.dup, 1) := by decide +kernel
theorem dX7_still_75 : decode cX7_still 75 = .ok (.getfield 168, 3) := by decide +kernel
theorem dX7_still_78 : decode cX7_still 78 = .ok (.iload_n 3, 1) := by decide +kernel
theorem dX7_still_79 : decode cX7_still 79 = .ok (.iadd, 1) := by decide +kernel
theorem dX7_still_80 : decode cX7_still 80 = .ok (.putfield 168, 3) := by decide +kernel
theorem dX7_still_83 : decode cX7_still 83 = .ok (.sipush 10000, 3) := by decide +kernel
theorem dX7_still_86 : decode cX7_still 86 = .ok (.iload_n 2, 1) := by decide +kernel
theorem dX7_still_87 : decode cX7_still 87 = .ok (.imul, 1) := by decide +kernel
theorem dX7_still_88 : decode cX7_still 88 = .ok (.iload_n 3, 1) := by decide +kernel
theorem dX7_still_89 : decode cX7_still 89 = .ok (.iadd, 1) := by decide +kernel
theorem dX7_still_90 : decode cX7_still 90 = .ok (.ireturn, 1) := by decide +kernel
set_option maxRecDepth 20000 in
theorem ggX7_isWood_X7_in : GoodIn wsX7_isWood wsX7_in := goodIn_r _ [4] (by decide +kernel) (by decide +kernel)
set_option maxRecDepth 20000 in
theorem gX7_isWood_X7_in : GoodIn wsX7_isWood (va_wsS RX7 96 yX7_in wsX7_in) := goodIn_app (goodIn_of _ (by decide +kernel)) ggX7_isWood_X7_in
theorem dX7_isWood_0 : decode cX7_isWood 0 = .ok (.iload_n 0, 1) := by decide +kernel
theorem dX7_isWood_1 : decode cX7_isWood 1 = .ok (.iconst 0, 1) := by decide +kernel
theorem dX7_isWood_2 : decode cX7_isWood 2 = .ok (.iconst 5, 1) := by decide +kernel
theorem dX7_isWood_3 : decode cX7_isWood 3 = .ok (.invokestatic 96, 3) := by decide +kernel
theorem dX7_isWood_6 : decode cX7_isWood 6 = .ok (.ireturn, 1) := by decide +kernel
set_option maxRecDepth 20000 in
theorem ggX7_let_X7_isWood : GoodIn wsX7_let wsX7_isWood := goodIn_r _ [8, 9, 10, 7, 11] (by decide +kernel) (by decide +kernel)
set_option maxRecDepth 20000 in
theorem gX7_let_X7_isWood : GoodIn wsX7_let (va_wsS RX7 171 yX7_isWood wsX7_isWood) := goodIn_app (goodIn_of _ (by decide +kernel)) ggX7_let_X7_isWood
set_option maxRecDepth 20000 in
theorem ggX7_let_X7_in : GoodIn wsX7_let wsX7_in := goodIn_r _ [11] (by decide +kernel) (by decide +kernel)
set_option maxRecDepth 20000 in
theorem gX7_let_X7_in : GoodIn wsX7_let (va_wsS RX7 96 yX7_in wsX7_in) := goodIn_app (goodIn_of _ (by decide +kernel)) ggX7_let_X7_in
theorem dX7_let_0 : decode cX7_let 0 = .ok (.iload_n 1, 1) := by decide +kernel
theorem dX7_let_1 : decode cX7_let 1 = .ok (.invokestatic 171, 3) := by decide +kernel
theorem dX7_let_4 : decode cX7_let 4 = .ok (.ifCond .eq 13, 3) := by decide +kernel
theorem dX7_let_7 : decode cX7_let 7 = .ok (.iload_n 2, 1) := by decide +kernel
theorem dX7_let_8 : decode cX7_let 8 = .ok (.iconst 0, 1) := by decide +kernel
theorem dX7_let_9 : decode cX7_let 9 = .ok (.bipush 100, 2) := by decide +kernel
theorem dX7_let_11 : decode cX7_let 11 = .ok (.invokestatic 96, 3) := by decide +kernel
theorem dX7_let_14 : decode cX7_let 14 = .ok (.ifCond .ne 5, 3) := by decide +kernel
theorem dX7_let_17 : decode cX7_let 17 = .ok (.iconst 0, 1) := by decide +kernel
theorem dX7_let_18 : decode cX7_let 18 = .ok (.ireturn, 1) := by decide +kernel
theorem dX7_let_19 : decode cX7_let 19 = .ok (.aload_n 0, 1) := by decide +kernel
theorem dX7_let_20 : decode cX7_let 20 = .ok (.getfield 68, 3) := by decide +kernel
theorem dX7_let_23 : decode cX7_let 23 = .ok (.iload_n 1, 1) := by decide +kernel
theorem dX7_let_24 : decode cX7_let 24 = .ok (.iconst 1, 1) := by decide +kernel
theorem dX7_let_25 : decode cX7_let 25 = .ok (.bastore, 1) := by decide +kernel
theorem dX7_let_26 : decode cX7_let 26 = .ok (.aload_n 0, 1) := by decide +kernel
theorem dX7_let_27 : decode cX7_let 27 = .ok (.getfield 71, 3) := by decide +kernel
theorem dX7_let_30 : decode cX7_let 30 = .ok (.iload_n 1, 1) := by decide +kernel
theorem dX7_let_31 : decode cX7_let 31 = .ok (.iload_n 2, 1) := by decide +kernel
theorem dX7_let_32 : decode cX7_let 32 = .ok (.iastore, 1) := by decide +kernel
theorem dX7_let_33 : decode cX7_let 33 = .ok (.aload_n 0, 1) := by decide +kernel
theorem dX7_let_34 : decode cX7_let 34 = .ok (.getfield 74, 3) := by decide +kernel
theorem dX7_let_37 : decode cX7_let 37 = .ok (.iload_n 1, 1) := by decide +kernel
theorem dX7_let_38 : decode cX7_let 38 = .ok (.iconst 0, 1) := by decide +kernel
theorem dX7_let_39 : decode cX7_let 39 = .ok (.iastore, 1) := by decide +kernel
theorem dX7_let_40 : decode cX7_let 40 = .ok (.aload_n 0, 1) := by decide +kernel
theorem dX7_let_41 : decode cX7_let 41 = .ok (.getfield 77, 3) := by decide +kernel
theorem dX7_let_44 : decode cX7_let 44 = .ok (.iload_n 1, 1) := by decide +kernel
theorem dX7_let_45 : decode cX7_let 45 = .ok (.iconst 0, 1) := by decide +kernel
theorem dX7_let_46 : decode cX7_let 46 = .ok (.iastore, 1) := by decide +kernel
theorem dX7_let_47 : decode cX7_let 47 = .ok (.iconst 1, 1) := by decide +kernel
theorem dX7_let_48 : decode cX7_let 48 = .ok (.ireturn, 1) := by decide +kernel
set_option maxRecDepth 20000 in
theorem ggX7_due_X7_isWood : GoodIn wsX7_due wsX7_isWood := goodIn_r _ [9, 10, 11, 8, 12] (by decide +kernel) (by decide +kernel)
set_option maxRecDepth 20000 in
theorem gX7_due_X7_isWood : GoodIn wsX7_due (va_wsS RX7 171 yX7_isWood wsX7_isWood) := goodIn_app (goodIn_of _ (by decide +kernel)) ggX7_due_X7_isWood
theorem dX7_due_0 : decode cX7_due 0 = .ok (.iload_n 1, 1) := by decide +kernel
theorem dX7_due_1 : decode cX7_due 1 = .ok (.invokestatic 171, 3) := by decide +kernel
theorem dX7_due_4 : decode cX7_due 4 = .ok (.ifCond .eq 42, 3) := by decide +kernel
theorem dX7_due_7 : decode cX7_due 7 = .ok (.aload_n 0, 1) := by decide +kernel
theorem dX7_due_8 : decode cX7_due 8 = .ok (.getfield 68, 3) := by decide +kernel
theorem dX7_due_11 : decode cX7_due 11 = .ok (.iload_n 1, 1) := by decide +kernel
theorem dX7_due_12 : decode cX7_due 12 = .ok (.baload, 1) := by decide +kernel
theorem dX7_due_13 : decode cX7_due 13 = .ok (.ifCond .eq 33, 3) := by decide +kernel
theorem dX7_due_16 : decode cX7_due 16 = .ok (.aload_n 0, 1) := by decide +kernel
theorem dX7_due_17 : decode cX7_due 17 = .ok (.getfield 74, 3) := by decide +kernel
theorem dX7_due_20 : decode cX7_due 20 = .ok (.iload_n 1, 1) := by decide +kernel
theorem dX7_due_21 : decode cX7_due 21 = .ok (.iaload, 1) := by decide +kernel
theorem dX7_due_22 : decode cX7_due 22 = .ok (.i2l, 1) := by decide +kernel
theorem dX7_due_23 : decode cX7_due 23 = .ok (.aload_n 0, 1) := by decide +kernel
theorem dX7_due_24 : decode cX7_due 24 = .ok (.getfield 71, 3) := by decide +kernel
theorem dX7_due_27 : decode cX7_due 27 = .ok (.iload_n 1, 1) := by decide +kernel
theorem dX7_due_28 : decode cX7_due 28 = .ok (.iaload, 1) := by decide +kernel
theorem dX7_due_29 : decode cX7_due 29 = .ok (.i2l, 1) := by decide +kernel
theorem dX7_due_30 : decode cX7_due 30 = .ok (.lmul, 1) := by decide +kernel
theorem dX7_due_31 : decode cX7_due 31 = .ok (.ldc2_w 174, 3) := by decide +kernel
theorem dX7_due_34 : decode cX7_due 34 = .ok (.ldiv, 1) := by decide +kernel
theorem dX7_due_35 : decode cX7_due 35 = .ok (.l2i, 1) := by decide +kernel
theorem dX7_due_36 : decode cX7_due 36 = .ok (.aload_n 0, 1) := by decide +kernel
theorem dX7_due_37 : decode cX7_due 37 = .ok (.getfield 77, 3) := by decide +kernel
theorem dX7_due_40 : decode cX7_due 40 = .ok (.iload_n 1, 1) := by decide +kernel
theorem dX7_due_41 : decode cX7_due 41 = .ok (.iaload, 1) := by decide +kernel
theorem dX7_due_42 : decode cX7_due 42 = .ok (.isub, 1) := by decide +kernel
theorem dX7_due_43 : decode cX7_due 43 = .ok (.goto 4, 3) := by decide +kernel
theorem dX7_due_46 : decode cX7_due 46 = .ok (.iconst 0, 1) := by decide +kernel
theorem dX7_due_47 : decode cX7_due 47 = .ok (.ireturn, 1) := by decide +kernel
set_option maxRecDepth 20000 in
theorem ggX7_pay_X7_isBarrel : GoodIn wsX7_pay wsX7_isBarrel := goodIn_r _ [11, 12, 13, 14, 10, 15, 31, 32, 33, 34, 35, 36, 37, 38, 39, 40, 41, 42, 43, 44, 45, 46, 47, 48, 49, 50, 51, 52, 53, 54, 55, 56, 57, 58, 59, 60, 61, 62, 63, 64, 65, 66, 67, 68, 69] (by decide +kernel) (by decide +kernel)
set_option maxRecDepth 20000 in
theorem gX7_pay_X7_isBarrel : GoodIn wsX7_pay (wsV RX7 159 RX7 yX7_isBarrel wsX7_isBarrel) := goodIn_app (goodIn_of _ (by decide +kernel)) ggX7_pay_X7_isBarrel
set_option maxRecDepth 20000 in
theorem ggX7_pay_X7_has : GoodIn wsX7_pay wsX7_has := goodIn_r _ [19, 20, 31, 32, 33, 34, 35, 36, 37, 38, 39, 40, 41, 42, 43, 44, 45, 46, 47, 48, 49, 50, 51, 52, 53, 54, 55, 56, 57, 58, 59, 60, 61, 62, 63, 64, 65, 66, 67, 68, 69] (by decide +kernel) (by decide +kernel)
set_option maxRecDepth 20000 in
theorem gX7_pay_X7_has : GoodIn wsX7_pay (wsV RX7 140 RX7 yX7_has wsX7_has) := goodIn_app (goodIn_of _ (by decide +kernel)) ggX7_pay_X7_has
set_option maxRecDepth 20000 in
theorem ggX7_pay_X7_due : GoodIn wsX7_pay wsX7_due := goodIn_r _ [24, 3, 25, 26, 27, 6, 28, 29, 10, 30, 13, 14, 15, 31, 32, 33, 34, 35, 36, 37, 38, 39, 40, 41, 42, 43, 44, 45, 46, 47, 48, 49, 50, 51, 52, 53, 54, 55, 56, 57, 58, 59, 60, 61, 62, 63, 64, 65, 66, 67, 68, 69] (by decide +kernel) (by decide +kernel)
set_option maxRecDepth 20000 in
theorem gX7_pay_X7_due : GoodIn wsX7_pay (wsV RX7 177 RX7 yX7_due wsX7_due) := goodIn_app (goodIn_of _ (by decide +kernel)) ggX7_pay_X7_due
theorem dX7_pay_0 : decode cX7_pay 0 = .ok (.aload_n 0, 1) := by decide +kernel
theorem dX7_pay_1 : decode cX7_pay 1 = .ok (.iload_n 1, 1) := by decide +kernel
theorem dX7_pay_2 : decode cX7_pay 2 = .ok (.invokevirtual 159, 3) := by decide +kernel
theorem dX7_pay_5 : decode cX7_pay 5 = .ok (.ifCond .eq 35, 3) := by decide +kernel
theorem dX7_pay_8 : decode cX7_pay 8 = .ok (.aload_n 0, 1) := by decide +kernel
theorem dX7_pay_9 : decode cX7_pay 9 = .ok (.getfield 62, 3) := by decide +kernel
theorem dX7_pay_12 : decode cX7_pay 12 = .ok (.iload_n 1, 1) := by decide +kernel
theorem dX7_pay_13 : decode cX7_pay 13 = .ok (.baload, 1) := by decide +kernel
theorem dX7_pay_14 : decode cX7_pay 14 = .ok (.ifCond .ne 26, 3) := by decide +kernel
theorem dX7_pay_17 : decode cX7_pay 17 = .ok (.aload_n 0, 1) := by decide +kernel
theorem dX7_pay_18 : decode cX7_pay 18 = .ok (.getfield 65, 3) := by decide +kernel
theorem dX7_pay_21 : decode cX7_pay 21 = .ok (.iload_n 1, 1) := by decide +kernel
theorem dX7_pay_22 : decode cX7_pay 22 = .ok (.baload, 1) := by decide +kernel
theorem dX7_pay_23 : decode cX7_pay 23 = .ok (.ifCond .ne 17, 3) := by decide +kernel
theorem dX7_pay_26 : decode cX7_pay 26 = .ok (.aload_n 0, 1) := by decide +kernel
theorem dX7_pay_27 : decode cX7_pay 27 = .ok (.getfield 68, 3) := by decide +kernel
theorem dX7_pay_30 : decode cX7_pay 30 = .ok (.aload_n 0, 1) := by decide +kernel
theorem dX7_pay_31 : decode cX7_pay 31 = .ok (.getfield 53, 3) := by decide +kernel
theorem dX7_pay_34 : decode cX7_pay 34 = .ok (.iload_n 1, 1) := by decide +kernel
theorem dX7_pay_35 : decode cX7_pay 35 = .ok (.iaload, 1) := by decide +kernel
theorem dX7_pay_36 : decode cX7_pay 36 = .ok (.baload, 1) := by decide +kernel
theorem dX7_pay_37 : decode cX7_pay 37 = .ok (.ifCond .ne 6, 3) := by decide +kernel
theorem dX7_pay_40 : decode cX7_pay 40 = .ok (.ldc 176, 2) := by decide +kernel
theorem dX7_pay_42 : decode cX7_pay 42 = .ok (.ireturn, 1) := by decide +kernel
theorem dX7_pay_43 : decode cX7_pay 43 = .ok (.aload_n 0, 1) := by decide +kernel
theorem dX7_pay_44 : decode cX7_pay 44 = .ok (.getfield 65, 3) := by decide +kernel
theorem dX7_pay_47 : decode cX7_pay 47 = .ok (.iload_n 1, 1) := by decide +kernel
theorem dX7_pay_48 : decode cX7_pay 48 = .ok (.iconst 1, 1) := by decide +kernel
theorem dX7_pay_49 : decode cX7_pay 49 = .ok (.bastore, 1) := by decide +kernel
theorem dX7_pay_50 : decode cX7_pay 50 = .ok (.aload_n 0, 1) := by decide +kernel
theorem dX7_pay_51 : decode cX7_pay 51 = .ok (.getfield 77, 3) := by decide +kernel
theorem dX7_pay_54 : decode cX7_pay 54 = .ok (.aload_n 0, 1) := by decide +kernel
theorem dX7_pay_55 : decode cX7_pay 55 = .ok (.getfield 53, 3) := by decide +kernel
theorem dX7_pay_58 : decode cX7_pay 58 = .ok (.iload_n 1, 1) := by decide +kernel
theorem dX7_pay_59 : decode cX7_pay 59 = .ok (.iaload, 1) := by decide +kernel
theorem dX7_pay_60 : decode cX7_pay 60 = .ok (.dup2, 1) := by decide +kernel
theorem dX7_pay_61 : decode cX7_pay 61 = .ok (.iaload, 1) := by decide +kernel
theorem dX7_pay_62 : decode cX7_pay 62 = .ok (.aload_n 0, 1) := by decide +kernel
theorem dX7_pay_63 : decode cX7_pay 63 = .ok (.iload_n 1, 1) := by decide +kernel
theorem dX7_pay_64 : decode cX7_pay 64 = .ok (.invokevirtual 140, 3) := by decide +kernel
theorem dX7_pay_67 : decode cX7_pay 67 = .ok (.iadd, 1) := by decide +kernel
theorem dX7_pay_68 : decode cX7_pay 68 = .ok (.iastore, 1) := by decide +kernel
theorem dX7_pay_69 : decode cX7_pay 69 = .ok (.aload_n 0, 1) := by decide +kernel
theorem dX7_pay_70 : decode cX7_pay 70 = .ok (.aload_n 0, 1) := by decide +kernel
theorem dX7_pay_71 : decode cX7_pay 71 = .ok (.getfield 53, 3) := by decide +kernel
theorem dX7_pay_74 : decode cX7_pay 74 = .ok (.iload_n 1, 1) := by decide +kernel
theorem dX7_pay_75 : decode cX7_pay 75 = .ok (.iaload, 1) := by decide +kernel
theorem dX7_pay_76 : decode cX7_pay 76 = .ok (.invokevirtual 177, 3) := by decide +kernel
theorem dX7_pay_79 : decode cX7_pay 79 = .ok (.ireturn, 1) := by decide +kernel
set_option maxRecDepth 20000 in
theorem ggX7_burn_X7_isWood : GoodIn wsX7_burn wsX7_isWood := goodIn_r _ [10, 11, 12, 9, 13] (by decide +kernel) (by decide +kernel)
set_option maxRecDepth 20000 in
theorem gX7_burn_X7_isWood : GoodIn wsX7_burn (va_wsS RX7 171 yX7_isWood wsX7_isWood) := goodIn_app (goodIn_of _ (by decide +kernel)) ggX7_burn_X7_isWood
theorem dX7_burn_0 : decode cX7_burn 0 = .ok (.iload_n 1, 1) := by decide +kernel
theorem dX7_burn_1 : decode cX7_burn 1 = .ok (.invokestatic 171, 3) := by decide +kernel
theorem dX7_burn_4 : decode cX7_burn 4 = .ok (.ifCond .ne 5, 3) := by decide +kernel
theorem dX7_burn_7 : decode cX7_burn 7 = .ok (.iconst (-1), 1) := by decide +kernel
theorem dX7_burn_8 : decode cX7_burn 8 = .ok (.ireturn, 1) := by decide +kernel
theorem dX7_burn_9 : decode cX7_burn 9 = .ok (.iconst 0, 1) := by decide +kernel
theorem dX7_burn_10 : decode cX7_burn 10 = .ok (.istore_n 2, 1) := by decide +kernel
theorem dX7_burn_11 : decode cX7_burn 11 = .ok (.iconst 0, 1) := by decide +kernel
theorem dX7_burn_12 : decode cX7_burn 12 = .ok (.istore_n 3, 1) := by decide +kernel
theorem dX7_burn_13 : decode cX7_burn 13 = .ok (.iload_n 3, 1) := by decide +kernel
theorem dX7_burn_14 : decode cX7_burn 14 = .ok (.aload_n 0, 1) := by decide +kernel
theorem dX7_burn_15 : decode cX7_burn 15 = .ok (.getfield 92, 3) := by decide +kernel
theorem dX7_burn_18 : decode cX7_burn 18 = .ok (.if_icmp .ge 88, 3) := by decide +kernel
theorem dX7_burn_21 : decode cX7_burn 21 = .ok (.aload_n 0, 1) := by decide +kernel
theorem dX7_burn_22 : decode cX7_burn 22 = .ok (.getfield 16, 3) := by decide +kernel
theorem dX7_burn_25 : decode cX7_burn 25 = .ok (.iload_n 3, 1) := by decide +kernel
theorem dX7_burn_26 : decode cX7_burn 26 = .ok (.iaload, 1) := by decide +kernel
theorem dX7_burn_27 : decode cX7_burn 27 = .ok (.iload_n 1, 1) := by decide +kernel
theorem dX7_burn_28 : decode cX7_burn 28 = .ok (.if_icmp .ne 72, 3) := by decide +kernel
theorem dX7_burn_31 : decode cX7_burn 31 = .ok (.aload_n 0, 1) := by decide +kernel
theorem dX7_burn_32 : decode cX7_burn 32 = .ok (.getfield 28, 3) := by decide +kernel
theorem dX7_burn_35 : decode cX7_burn 35 = .ok (.iload_n 3, 1) := by decide +kernel
theorem dX7_burn_36 : decode cX7_burn 36 = .ok (.baload, 1) := by decide +kernel
theorem dX7_burn_37 : decode cX7_burn 37 = .ok (.ifCond .eq 6, 3) := by decide +kernel
theorem dX7_burn_40 : decode cX7_burn 40 = .ok (.goto 60, 3) := by decide +kernel
theorem dX7_burn_43 : decode cX7_burn 43 = .ok (.aload_n 0, 1) := by decide +kernel
theorem dX7_burn_44 : decode cX7_burn 44 = .ok (.getfield 28, 3) := by decide +kernel
theorem dX7_burn_47 : decode cX7_burn 47 = .ok (.iload_n 3, 1) := by decide +kernel
theorem dX7_burn_48 : decode cX7_burn 48 = .ok (.iconst 1, 1) := by decide +kernel
theorem dX7_burn_49 : decode cX7_burn 49 = .ok (.bastore, 1) := by decide +kernel
theorem dX7_burn_50 : decode cX7_burn 50 = .ok (.iinc 2 1, 3) := by decide +kernel
theorem dX7_burn_53 : decode cX7_burn 53 = .ok (.bipush 12, 2) := by decide +kernel
theorem dX7_burn_55 : decode cX7_burn 55 = .ok (.iload_n 3, 1) := by decide +kernel
theorem dX7_burn_56 : decode cX7_burn 56 = .ok (.imul, 1) := by decide +kernel
theorem dX7_burn_57 : decode cX7_burn 57 = .ok (.istore 4, 2) := by decide +kernel
theorem dX7_burn_59 : decode cX7_burn 59 = .ok (.iload 4, 2) := by decide +kernel
theorem dX7_burn_61 : decode cX7_burn 61 = .ok (.bipush 12, 2) := by decide +kernel
theorem dX7_burn_63 : decode cX7_burn 63 = .ok (.iload_n 3, 1) := by decide +kernel
theorem dX7_burn_64 : decode cX7_burn 64 = .ok (.iconst 1, 1) := by decide +kernel
theorem dX7_burn_65 : decode cX7_burn 65 = .ok (.iadd, 1) := by decide +kernel
theorem dX7_burn_66 : decode cX7_burn 66 = .ok (.imul, 1) := by decide +kernel
theorem dX7_burn_67 : decode cX7_burn 67 = .ok (.if_icmp .ge 33, 3) := by decide +kernel
theorem dX7_burn_70 : decode cX7_burn 70 = .ok (.aload_n 0, 1) := by decide +kernel
theorem dX7_burn_71 : decode cX7_burn 71 = .ok (.dup, 1) := by decide +kernel
theorem dX7_burn_72 : decode cX7_burn 72 = .ok (.getfield 180, 3) := by decide +kernel
theorem dX7_burn_75 : decode cX7_burn 75 = .ok (.aload_n 0, 1) := by decide +kernel
theorem dX7_burn_76 : decode cX7_burn 76 = .ok (.getfield 47, 3) := by decide +kernel
theorem dX7_burn_79 : decode cX7_burn 79 = .ok (.iload 4, 2) := by decide +kernel
theorem dX7_burn_81 : decode cX7_burn 81 = .ok (.iaload, 1) := by decide +kernel
theorem dX7_burn_82 : decode cX7_burn 82 = .ok (.iadd, 1) := by decide +kernel
theorem dX7_burn_83 : decode cX7_burn 83 = .ok (.putfield 180, 3) := by decide +kernel
theorem dX7_burn_86 : decode cX7_burn 86 = .ok (.aload_n 0, 1) := by decide +kernel
theorem dX7_burn_87 : decode cX7_burn 87 = .ok (.getfield 47, 3) := by decide +kernel
theorem dX7_burn_90 : decode cX7_burn 90 = .ok (.iload 4, 2) := by decide +kernel
theorem dX7_burn_92 : decode cX7_burn 92 = .ok (.iconst 0, 1) := by decide +kernel
theorem dX7_burn_93 : decode cX7_burn 93 = .ok (.iastore, 1) := by decide +kernel
theorem dX7_burn_94 : decode cX7_burn 94 = .ok (.iinc 4 1, 3) := by decide +kernel
theorem dX7_burn_97 : decode cX7_burn 97 = .ok (.goto (-38), 3) := by decide +kernel
theorem dX7_burn_100 : decode cX7_burn 100 = .ok (.iinc 3 1, 3) := by decide +kernel
theorem dX7_burn_103 : decode cX7_burn 103 = .ok (.goto (-90), 3) := by decide +kernel
theorem dX7_burn_106 : decode cX7_burn 106 = .ok (.aload_n 0, 1) := by decide +kernel
theorem dX7_burn_107 : decode cX7_burn 107 = .ok (.getfield 68, 3) := by decide +kernel
theorem dX7_burn_110 : decode cX7_burn 110 = .ok (.iload_n 1, 1) := by decide +kernel
theorem dX7_burn_111 : decode cX7_burn 111 = .ok (.iconst 0, 1) := by decide +kernel
theorem dX7_burn_112 : decode cX7_burn 112 = .ok (.bastore, 1) := by decide +kernel
theorem dX7_burn_113 : decode cX7_burn 113 = .ok (.iload_n 2, 1) := by decide +kernel
theorem dX7_burn_114 : decode cX7_burn 114 = .ok (.ireturn, 1) := by decide +kernel
theorem dX7_chooses_0 : decode cX7_chooses 0 = .ok (.iconst 0, 1) := by decide +kernel
theorem dX7_chooses_1 : decode cX7_chooses 1 = .ok (.istore_n 3, 1) := by decide +kernel
theorem dX7_chooses_2 : decode cX7_chooses 2 = .ok (.iload_n 1, 1) := by decide +kernel
theorem dX7_chooses_3 : decode cX7_chooses 3 = .ok (.ifCond .lt 21, 3) := by decide +kernel
theorem dX7_chooses_6 : decode cX7_chooses 6 = .ok (.iload_n 1, 1) := by decide +kernel
theorem dX7_chooses_7 : decode cX7_chooses 7 = .ok (.bipush 30, 2) := by decide +kernel
theorem dX7_chooses_9 : decode cX7_chooses 9 = .ok (.ishr, 1) := by decide +kernel
theorem dX7_chooses_10 : decode cX7_chooses 10 = .ok (.ifCond .ne 14, 3) := by decide +kernel
theorem dX7_chooses_13 : decode cX7_chooses 13 = .ok (.iload_n 2, 1) := by decide +kernel
theorem dX7_chooses_14 : decode cX7_chooses 14 = .ok (.ifCond .lt 10, 3) := by decide +kernel
theorem dX7_chooses_17 : decode cX7_chooses 17 = .ok (.iload_n 2, 1) := by decide +kernel
theorem dX7_chooses_18 : decode cX7_chooses 18 = .ok (.bipush 30, 2) := by decide +kernel
theorem dX7_chooses_20 : decode cX7_chooses 20 = .ok (.ishr, 1) := by decide +kernel
theorem dX7_chooses_21 : decode cX7_chooses 21 = .ok (.ifCond .eq 5, 3) := by decide +kernel
theorem dX7_chooses_24 : decode cX7_chooses 24 = .ok (.iconst (-1), 1) := by decide +kernel
theorem dX7_chooses_25 : decode cX7_chooses 25 = .ok (.ireturn, 1) := by decide +kernel
theorem dX7_chooses_26 : decode cX7_chooses 26 = .ok (.iconst 0, 1) := by decide +kernel
theorem dX7_chooses_27 : decode cX7_chooses 27 = .ok (.istore 4, 2) := by decide +kernel
theorem dX7_chooses_29 : decode cX7_chooses 29 = .ok (.iload 4, 2) := by decide +kernel
theorem dX7_chooses_31 : decode cX7_chooses 31 = .ok (.bipush 60, 2) := by decide +kernel
theorem dX7_chooses_33 : decode cX7_chooses 33 = .ok (.if_icmp .ge 66, 3) := by decide +kernel
theorem dX7_chooses_36 : decode cX7_chooses 36 = .ok (.iload 4, 2) := by decide +kernel
theorem dX7_chooses_38 : decode cX7_chooses 38 = .ok (.bipush 30, 2) := by decide +kernel
theorem dX7_chooses_40 : decode cX7_chooses 40 = .ok (.if_icmp .ge 10, 3) := by decide +kernel
theorem dX7_chooses_43 : decode cX7_chooses 43 = .ok (.iload_n 1, 1) := by decide +kernel
theorem dX7_chooses_44 : decode cX7_chooses 44 = .ok (.iload 4, 2) := by decide +kernel
theorem dX7_chooses_46 : decode cX7_chooses 46 = .ok (.ishr, 1) := by decide +kernel
theorem dX7_chooses_47 : decode cX7_chooses 47 = .ok (.goto 10, 3) := by decide +kernel
theorem dX7_chooses_50 : decode cX7_chooses 50 = .ok (.iload_n 2, 1) := by decide +kernel
theorem dX7_chooses_51 : decode cX7_chooses 51 = .ok (.iload 4, 2) := by decide +kernel
theorem dX7_chooses_53 : decode cX7_chooses 53 = .ok (.bipush 30, 2) := by decide +kernel
theorem dX7_chooses_55 : decode cX7_chooses 55 = .ok (.isub, 1) := by decide +kernel
theorem dX7_chooses_56 : decode cX7_chooses 56 = .ok (.ishr, 1) := by decide +kernel
theorem dX7_chooses_57 : decode cX7_chooses 57 = .ok (.iconst 1, 1) := by decide +kernel
theorem dX7_chooses_58 : decode cX7_chooses 58 = .ok (.iand, 1) := by decide +kernel
theorem dX7_chooses_59 : decode cX7_chooses 59 = .ok (.ifCond .ne 6, 3) := by decide +kernel
theorem dX7_chooses_62 : decode cX7_chooses 62 = .ok (.goto 31, 3) := by decide +kernel
theorem dX7_chooses_65 : decode cX7_chooses 65 = .ok (.iload 4, 2) := by decide +kernel
theorem dX7_chooses_67 : decode cX7_chooses 67 = .ok (.aload_n 0, 1) := by decide +kernel
theorem dX7_chooses_68 : decode cX7_chooses 68 = .ok (.getfield 92, 3) := by decide +kernel
theorem dX7_chooses_71 : decode cX7_chooses 71 = .ok (.if_icmp .ge 9, 3) := by decide +kernel
theorem dX7_chooses_74 : decode cX7_chooses 74 = .ok (.iload_n 3, 1) := by decide +kernel
theorem dX7_chooses_75 : decode cX7_chooses 75 = .ok (.bipush 6, 2) := by decide +kernel
theorem dX7_chooses_77 : decode cX7_chooses 77 = .ok (.if_icmp .ne 5, 3) := by decide +kernel
theorem dX7_chooses_80 : decode cX7_chooses 80 = .ok (.iconst (-1), 1) := by decide +kernel
theorem dX7_chooses_81 : decode cX7_chooses 81 = .ok (.ireturn, 1) := by decide +kernel
theorem dX7_chooses_82 : decode cX7_chooses 82 = .ok (.aload_n 0, 1) := by decide +kernel
theorem dX7_chooses_83 : decode cX7_chooses 83 = .ok (.getfield 80, 3) := by decide +kernel
theorem dX7_chooses_86 : decode cX7_chooses 86 = .ok (.iload_n 3, 1) := by decide +kernel
theorem dX7_chooses_87 : decode cX7_chooses 87 = .ok (.iload 4, 2) := by decide +kernel
theorem dX7_chooses_89 : decode cX7_chooses 89 = .ok (.iastore, 1) := by decide +kernel
theorem dX7_chooses_90 : decode cX7_chooses 90 = .ok (.iinc 3 1, 3) := by decide +kernel
theorem dX7_chooses_93 : decode cX7_chooses 93 = .ok (.iinc 4 1, 3) := by decide +kernel
theorem dX7_chooses_96 : decode cX7_chooses 96 = .ok (.goto (-67), 3) := by decide +kernel
theorem dX7_chooses_99 : decode cX7_chooses 99 = .ok (.iload_n 3, 1) := by decide +kernel
theorem dX7_chooses_100 : decode cX7_chooses 100 = .ok (.ifCond .ne 7, 3) := by decide +kernel
theorem dX7_chooses_103 : decode cX7_chooses 103 = .ok (.iconst (-1), 1) := by decide +kernel
theorem dX7_chooses_104 : decode cX7_chooses 104 = .ok (.goto 4, 3) := by decide +kernel
theorem dX7_chooses_107 : decode cX7_chooses 107 = .ok (.iload_n 3, 1) := by decide +kernel
theorem dX7_chooses_108 : decode cX7_chooses 108 = .ok (.ireturn, 1) := by decide +kernel
set_option maxRecDepth 20000 in
theorem ggX7_foresees_X7_strength : GoodIn wsX7_foresees wsX7_strength := goodIn_r _ [14] (by decide +kernel) (by decide +kernel)
set_option maxRecDepth 20000 in
theorem gX7_foresees_X7_strength : GoodIn wsX7_foresees (va_wsS RX7 121 yX7_strength wsX7_strength) := goodIn_app (goodIn_of _ (by decide +kernel)) ggX7_foresees_X7_strength
set_option maxRecDepth 20000 in
theorem ggX7_foresees_X7_gradeOf : GoodIn wsX7_foresees wsX7_gradeOf := goodIn_r _ [18, 19, 20, 21, 22, 23, 24, 25, 26, 27, 28, 29, 30, 31, 32, 33, 34, 35, 36, 37, 38, 39, 40, 41, 42, 43, 44, 45, 46, 47, 48, 49, 50, 51, 52, 53, 54, 55, 56, 57, 58] (by decide +kernel) (by decide +kernel)
set_option maxRecDepth 20000 in
theorem gX7_foresees_X7_gradeOf : GoodIn wsX7_foresees (wsV RX7 127 RX7 yX7_gradeOf wsX7_gradeOf) := goodIn_app (goodIn_of _ (by decide +kernel)) ggX7_foresees_X7_gradeOf
theorem dX7_foresees_0 : decode cX7_foresees 0 = .ok (.aload_n 0, 1) := by decide +kernel
theorem dX7_foresees_1 : decode cX7_foresees 1 = .ok (.getfield 80, 3) := by decide +kernel
theorem dX7_foresees_4 : decode cX7_foresees 4 = .ok (.iload_n 1, 1) := by decide +kernel
theorem dX7_foresees_5 : decode cX7_foresees 5 = .ok (.iaload, 1) := by decide +kernel
theorem dX7_foresees_6 : decode cX7_foresees 6 = .ok (.istore_n 2, 1) := by decide +kernel
theorem dX7_foresees_7 : decode cX7_foresees 7 = .ok (.bipush 12, 2) := by decide +kernel
theorem dX7_foresees_9 : decode cX7_foresees 9 = .ok (.newarray .int, 2) := by decide +kernel
theorem dX7_foresees_11 : decode cX7_foresees 11 = .ok (.astore_n 3, 1) := by decide +kernel
theorem dX7_foresees_12 : decode cX7_foresees 12 = .ok (.iconst 0, 1) := by decide +kernel
theorem dX7_foresees_13 : decode cX7_foresees 13 = .ok (.istore 4, 2) := by decide +kernel
theorem dX7_foresees_15 : decode cX7_foresees 15 = .ok (.iload 4, 2) := by decide +kernel
theorem dX7_foresees_17 : decode cX7_foresees 17 = .ok (.bipush 12, 2) := by decide +kernel
theorem dX7_foresees_19 : decode cX7_foresees 19 = .ok (.if_icmp .ge 25, 3) := by decide +kernel
theorem dX7_foresees_22 : decode cX7_foresees 22 = .ok (.aload_n 3, 1) := by decide +kernel
theorem dX7_foresees_23 : decode cX7_foresees 23 = .ok (.iload 4, 2) := by decide +kernel
theorem dX7_foresees_25 : decode cX7_foresees 25 = .ok (.aload_n 0, 1) := by decide +kernel
theorem dX7_foresees_26 : decode cX7_foresees 26 = .ok (.getfield 47, 3) := by decide +kernel
theorem dX7_foresees_29 : decode cX7_foresees 29 = .ok (.bipush 12, 2) := by decide +kernel
theorem dX7_foresees_31 : decode cX7_foresees 31 = .ok (.iload_n 2, 1) := by decide +kernel
theorem dX7_foresees_32 : decode cX7_foresees 32 = .ok (.imul, 1) := by decide +kernel
theorem dX7_foresees_33 : decode cX7_foresees 33 = .ok (.iload 4, 2) := by decide +kernel
theorem dX7_foresees_35 : decode cX7_foresees 35 = .ok (.iadd, 1) := by decide +kernel
theorem dX7_foresees_36 : decode cX7_foresees 36 = .ok (.iaload, 1) := by decide +kernel
theorem dX7_foresees_37 : decode cX7_foresees 37 = .ok (.iastore, 1) := by decide +kernel
theorem dX7_foresees_38 : decode cX7_foresees 38 = .ok (.iinc 4 1, 3) := by decide +kernel
theorem dX7_foresees_41 : decode cX7_foresees 41 = .ok (.goto (-26), 3) := by decide +kernel
theorem dX7_foresees_44 : decode cX7_foresees 44 = .ok (.iconst 0, 1) := by decide +kernel
theorem dX7_foresees_45 : decode cX7_foresees 45 = .ok (.istore 4, 2) := by decide +kernel
theorem dX7_foresees_47 : decode cX7_foresees 47 = .ok (.iconst 0, 1) := by decide +kernel
theorem dX7_foresees_48 : decode cX7_foresees 48 = .ok (.istore 5, 2) := by decide +kernel
theorem dX7_foresees_50 : decode cX7_foresees 50 = .ok (.iload 5, 2) := by decide +kernel
theorem dX7_foresees_52 : decode cX7_foresees 52 = .ok (.bipush 24, 2) := by decide +kernel
theorem dX7_foresees_54 : decode cX7_foresees 54 = .ok (.if_icmp .ge 237, 3) := by decide +kernel
theorem dX7_foresees_57 : decode cX7_foresees 57 = .ok (.aload_n 0, 1) := by decide +kernel
theorem dX7_foresees_58 : decode cX7_foresees 58 = .ok (.getfield 83, 3) := by decide +kernel
theorem dX7_foresees_61 : decode cX7_foresees 61 = .ok (.bipush 24, 2) := by decide +kernel
theorem dX7_foresees_63 : decode cX7_foresees 63 = .ok (.iload_n 1, 1) := by decide +kernel
theorem dX7_foresees_64 : decode cX7_foresees 64 = .ok (.imul, 1) := by decide +kernel
theorem dX7_foresees_65 : decode cX7_foresees 65 = .ok (.iload 5, 2) := by decide +kernel
theorem dX7_foresees_67 : decode cX7_foresees 67 = .ok (.iadd, 1) := by decide +kernel
theorem dX7_foresees_68 : decode cX7_foresees 68 = .ok (.iload 4, 2) := by decide +kernel
theorem dX7_foresees_70 : decode cX7_foresees 70 = .ok (.iastore, 1) := by decide +kernel
theorem dX7_foresees_71 : decode cX7_foresees 71 = .ok (.aload_n 0, 1) := by decide +kernel
theorem dX7_foresees_72 : decode cX7_foresees 72 = .ok (.getfield 100, 3) := by decide +kernel
theorem dX7_foresees_75 : decode cX7_foresees 75 = .ok (.iload 5, 2) := by decide +kernel
theorem dX7_foresees_77 : decode cX7_foresees 77 = .ok (.iadd, 1) := by decide +kernel
theorem dX7_foresees_78 : decode cX7_foresees 78 = .ok (.istore 6, 2) := by decide +kernel
theorem dX7_foresees_80 : decode cX7_foresees 80 = .ok (.iconst 0, 1) := by decide +kernel
theorem dX7_foresees_81 : decode cX7_foresees 81 = .ok (.istore 7, 2) := by decide +kernel
theorem dX7_foresees_83 : decode cX7_foresees 83 = .ok (.iload 7, 2) := by decide +kernel
theorem dX7_foresees_85 : decode cX7_foresees 85 = .ok (.aload_n 0, 1) := by decide +kernel
theorem dX7_foresees_86 : decode cX7_foresees 86 = .ok (.getfield 32, 3) := by decide +kernel
theorem dX7_foresees_89 : decode cX7_foresees 89 = .ok (.iload_n 2, 1) := by decide +kernel
theorem dX7_foresees_90 : decode cX7_foresees 90 = .ok (.iaload, 1) := by decide +kernel
theorem dX7_foresees_91 : decode cX7_foresees 91 = .ok (.if_icmp .ge 194, 3) := by decide +kernel
theorem dX7_foresees_94 : decode cX7_foresees 94 = .ok (.iload 6, 2) := by decide +kernel
theorem dX7_foresees_96 : decode cX7_foresees 96 = .ok (.sipush 3650, 3) := by decide +kernel
theorem dX7_foresees_99 : decode cX7_foresees 99 = .ok (.if_icmp .ge 186, 3) := by decide +kernel
theorem dX7_foresees_102 : decode cX7_foresees 102 = .ok (.iconst 3, 1) := by decide +kernel
theorem dX7_foresees_103 : decode cX7_foresees 103 = .ok (.iload_n 2, 1) := by decide +kernel
theorem dX7_foresees_104 : decode cX7_foresees 104 = .ok (.imul, 1) := by decide +kernel
theorem dX7_foresees_105 : decode cX7_foresees 105 = .ok (.iload 7, 2) := by decide +kernel
theorem dX7_foresees_107 : decode cX7_foresees 107 = .ok (.iadd, 1) := by decide +kernel
theorem dX7_foresees_108 : decode cX7_foresees 108 = .ok (.istore 8, 2) := by decide +kernel
theorem dX7_foresees_110 : decode cX7_foresees 110 = .ok (.iconst 0, 1) := by decide +kernel
theorem dX7_foresees_111 : decode cX7_foresees 111 = .ok (.istore 9, 2) := by decide +kernel
theorem dX7_foresees_113 : decode cX7_foresees 113 = .ok (.iconst 0, 1) := by decide +kernel
theorem dX7_foresees_114 : decode cX7_foresees 114 = .ok (.istore 10, 2) := by decide +kernel
theorem dX7_foresees_116 : decode cX7_foresees 116 = .ok (.iload 10, 2) := by decide +kernel
theorem dX7_foresees_118 : decode cX7_foresees 118 = .ok (.iconst 4, 1) := by decide +kernel
theorem dX7_foresees_119 : decode cX7_foresees 119 = .ok (.if_icmp .ge 23, 3) := by decide +kernel
theorem dX7_foresees_122 : decode cX7_foresees 122 = .ok (.iload 9, 2) := by decide +kernel
theorem dX7_foresees_124 : decode cX7_foresees 124 = .ok (.aload_n 3, 1) := by decide +kernel
theorem dX7_foresees_125 : decode cX7_foresees 125 = .ok (.iconst 4, 1) := by decide +kernel
theorem dX7_foresees_126 : decode cX7_foresees 126 = .ok (.iload 7, 2) := by decide +kernel
theorem dX7_foresees_128 : decode cX7_foresees 128 = .ok (.imul, 1) := by decide +kernel
theorem dX7_foresees_129 : decode cX7_foresees 129 = .ok (.iload 10, 2) := by decide +kernel
theorem dX7_foresees_131 : decode cX7_foresees 131 = .ok (.iadd, 1) := by decide +kernel
theorem dX7_foresees_132 : decode cX7_foresees 132 = .ok (.iaload, 1) := by decide +kernel
theorem dX7_foresees_133 : decode cX7_foresees 133 = .ok (.iadd, 1) := by decide +kernel
theorem dX7_foresees_134 : decode cX7_foresees 134 = .ok (.istore 9, 2) := by decide +kernel
theorem dX7_foresees_136 : decode cX7_foresees 136 = .ok (.iinc 10 1, 3) := by decide +kernel
theorem dX7_foresees_139 : decode cX7_foresees 139 = .ok (.goto (-23), 3) := by decide +kernel
theorem dX7_foresees_142 : decode cX7_foresees 142 = .ok (.aload_n 0, 1) := by decide +kernel
theorem dX7_foresees_143 : decode cX7_foresees 143 = .ok (.getfield 28, 3) := by decide +kernel
theorem dX7_foresees_146 : decode cX7_foresees 146 = .ok (.iload_n 2, 1) := by decide +kernel
theorem dX7_foresees_147 : decode cX7_foresees 147 = .ok (.baload, 1) := by decide +kernel
theorem dX7_foresees_148 : decode cX7_foresees 148 = .ok (.ifCond .eq 7, 3) := by decide +kernel
theorem dX7_foresees_151 : decode cX7_foresees 151 = .ok (.iconst 0, 1) := by decide +kernel
theorem dX7_foresees_152 : decode cX7_foresees 152 = .ok (.goto 24, 3) := by decide +kernel
theorem dX7_foresees_155 : decode cX7_foresees 155 = .ok (.aload_n 0, 1) := by decide +kernel
theorem dX7_foresees_156 : decode cX7_foresees 156 = .ok (.getfield 9, 3) := by decide +kernel
theorem dX7_foresees_159 : decode cX7_foresees 159 = .ok (.iload 6, 2) := by decide +kernel
theorem dX7_foresees_161 : decode cX7_foresees 161 = .ok (.iaload, 1) := by decide +kernel
theorem dX7_foresees_162 : decode cX7_foresees 162 = .ok (.iload 6, 2) := by decide +kernel
theorem dX7_foresees_164 : decode cX7_foresees 164 = .ok (.aload_n 0, 1) := by decide +kernel
theorem dX7_foresees_165 : decode cX7_foresees 165 = .ok (.getfield 41, 3) := by decide +kernel
theorem dX7_foresees_168 : decode cX7_foresees 168 = .ok (.iload 8, 2) := by decide +kernel
theorem dX7_foresees_170 : decode cX7_foresees 170 = .ok (.iaload, 1) := by decide +kernel
theorem dX7_foresees_171 : decode cX7_foresees 171 = .ok (.isub, 1) := by decide +kernel
theorem dX7_foresees_172 : decode cX7_foresees 172 = .ok (.invokestatic 121, 3) := by decide +kernel
theorem dX7_foresees_175 : decode cX7_foresees 175 = .ok (.imul, 1) := by decide +kernel
theorem dX7_foresees_176 : decode cX7_foresees 176 = .ok (.istore 10, 2) := by decide +kernel
theorem dX7_foresees_178 : decode cX7_foresees 178 = .ok (.iload 10, 2) := by decide +kernel
theorem dX7_foresees_180 : decode cX7_foresees 180 = .ok (.sipush 400, 3) := by decide +kernel
theorem dX7_foresees_183 : decode cX7_foresees 183 = .ok (.iload 9, 2) := by decide +kernel
theorem dX7_foresees_185 : decode cX7_foresees 185 = .ok (.isub, 1) := by decide +kernel
theorem dX7_foresees_186 : decode cX7_foresees 186 = .ok (.if_icmp .ge 8, 3) := by decide +kernel
theorem dX7_foresees_189 : decode cX7_foresees 189 = .ok (.iload 10, 2) := by decide +kernel
theorem dX7_foresees_191 : decode cX7_foresees 191 = .ok (.goto 9, 3) := by decide +kernel
theorem dX7_foresees_194 : decode cX7_foresees 194 = .ok (.sipush 400, 3) := by decide +kernel
theorem dX7_foresees_197 : decode cX7_foresees 197 = .ok (.iload 9, 2) := by decide +kernel
theorem dX7_foresees_199 : decode cX7_foresees 199 = .ok (.isub, 1) := by decide +kernel
theorem dX7_foresees_200 : decode cX7_foresees 200 = .ok (.istore 11, 2) := by decide +kernel
theorem dX7_foresees_202 : decode cX7_foresees 202 = .ok (.aload_n 3, 1) := by decide +kernel
theorem dX7_foresees_203 : decode cX7_foresees 203 = .ok (.iconst 4, 1) := by decide +kernel
theorem dX7_foresees_204 : decode cX7_foresees 204 = .ok (.iload 7, 2) := by decide +kernel
theorem dX7_foresees_206 : decode cX7_foresees 206 = .ok (.imul, 1) := by decide +kernel
theorem dX7_foresees_207 : decode cX7_foresees 207 = .ok (.aload_n 0, 1) := by decide +kernel
theorem dX7_foresees_208 : decode cX7_foresees 208 = .ok (.iload 8, 2) := by decide +kernel
theorem dX7_foresees_210 : decode cX7_foresees 210 = .ok (.iload 6, 2) := by decide +kernel
theorem dX7_foresees_212 : decode cX7_foresees 212 = .ok (.invokevirtual 127, 3) := by decide +kernel
theorem dX7_foresees_215 : decode cX7_foresees 215 = .ok (.iadd, 1) := by decide +kernel
theorem dX7_foresees_216 : decode cX7_foresees 216 = .ok (.dup2, 1) := by decide +kernel
theorem dX7_foresees_217 : decode cX7_foresees 217 = .ok (.iaload, 1) := by decide +kernel
theorem dX7_foresees_218 : decode cX7_foresees 218 = .ok (.iload 11, 2) := by decide +kernel
theorem dX7_foresees_220 : decode cX7_foresees 220 = .ok (.iadd, 1) := by decide +kernel
theorem dX7_foresees_221 : decode cX7_foresees 221 = .ok (.iastore, 1) := by decide +kernel
theorem dX7_foresees_222 : decode cX7_foresees 222 = .ok (.iload 4, 2) := by decide +kernel
theorem dX7_foresees_224 : decode cX7_foresees 224 = .ok (.iload 10, 2) := by decide +kernel
theorem dX7_foresees_226 : decode cX7_foresees 226 = .ok (.iload 11, 2) := by decide +kernel
theorem dX7_foresees_228 : decode cX7_foresees 228 = .ok (.isub, 1) := by decide +kernel
theorem dX7_foresees_229 : decode cX7_foresees 229 = .ok (.iadd, 1) := by decide +kernel
theorem dX7_foresees_230 : decode cX7_foresees 230 = .ok (.istore 4, 2) := by decide +kernel
theorem dX7_foresees_232 : decode cX7_foresees 232 = .ok (.iconst 0, 1) := by decide +kernel
theorem dX7_foresees_233 : decode cX7_foresees 233 = .ok (.istore 12, 2) := by decide +kernel
theorem dX7_foresees_235 : decode cX7_foresees 235 = .ok (.iload 12, 2) := by decide +kernel
theorem dX7_foresees_237 : decode cX7_foresees 237 = .ok (.iconst 4, 1) := by decide +kernel
theorem dX7_foresees_238 : decode cX7_foresees 238 = .ok (.if_icmp .ge 41, 3) := by decide +kernel
theorem dX7_foresees_241 : decode cX7_foresees 241 = .ok (.aload_n 3, 1) := by decide +kernel
theorem dX7_foresees_242 : decode cX7_foresees 242 = .ok (.iconst 4, 1) := by decide +kernel
theorem dX7_foresees_243 : decode cX7_foresees 243 = .ok (.iload 7, 2) := by decide +kernel
theorem dX7_foresees_245 : decode cX7_foresees 245 = .ok (.imul, 1) := by decide +kernel
theorem dX7_foresees_246 : decode cX7_foresees 246 = .ok (.iload 12, 2) := by decide +kernel
theorem dX7_foresees_248 : decode cX7_foresees 248 = .ok (.iadd, 1) := by decide +kernel
theorem dX7_foresees_249 : decode cX7_foresees 249 = .ok (.dup2, 1) := by decide +kernel
theorem dX7_foresees_250 : decode cX7_foresees 250 = .ok (.iaload, 1) := by decide +kernel
theorem dX7_foresees_251 : decode cX7_foresees 251 = .ok (.aload_n 3, 1) := by decide +kernel
theorem dX7_foresees_252 : decode cX7_foresees 252 = .ok (.iconst 4, 1) := by decide +kernel
theorem dX7_foresees_253 : decode cX7_foresees 253 = .ok (.iload 7, 2) := by decide +kernel
theorem dX7_foresees_255 : decode cX7_foresees 255 = .ok (.imul, 1) := by decide +kernel
theorem dX7_foresees_256 : decode cX7_foresees 256 = .ok (.iload 12, 2) := by decide +kernel
theorem dX7_foresees_258 : decode cX7_foresees 258 = .ok (.iadd, 1) := by decide +kernel
theorem dX7_foresees_259 : decode cX7_foresees 259 = .ok (.iaload, 1) := by decide +kernel
theorem dX7_foresees_260 : decode cX7_foresees 260 = .ok (.aload_n 0, 1) := by decide +kernel
theorem dX7_foresees_261 : decode cX7_foresees 261 = .ok (.getfield 13, 3) := by decide +kernel
theorem dX7_foresees_264 : decode cX7_foresees 264 = .ok (.iload 6, 2) := by decide +kernel
theorem dX7_foresees_266 : decode cX7_foresees 266 = .ok (.iaload, 1) := by decide +kernel
theorem dX7_foresees_267 : decode cX7_foresees 267 = .ok (.imul, 1) := by decide +kernel
theorem dX7_foresees_268 : decode cX7_foresees 268 = .ok (.bipush 100, 2) := by decide +kernel
theorem dX7_foresees_270 : decode cX7_foresees 270 = .ok (.idiv, 1) := by decide +kernel
theorem dX7_foresees_271 : decode cX7_foresees 271 = .ok (.isub, 1) := by decide +kernel
theorem dX7_foresees_272 : decode cX7_foresees 272 = .ok (.iastore, 1) := by decide +kernel
theorem dX7_foresees_273 : decode cX7_foresees 273 = .ok (.iinc 12 1, 3) := by decide +kernel
theorem dX7_foresees_276 : decode cX7_foresees 276 = .ok (.goto (-41), 3) := by decide +kernel
theorem dX7_foresees_279 : decode cX7_foresees 279 = .ok (.iinc 7 1, 3) := by decide +kernel
theorem dX7_foresees_282 : decode cX7_foresees 282 = .ok (.goto (-199), 3) := by decide +kernel
theorem dX7_foresees_285 : decode cX7_foresees 285 = .ok (.iinc 5 1, 3) := by decide +kernel
theorem dX7_foresees_288 : decode cX7_foresees 288 = .ok (.goto (-238), 3) := by decide +kernel
theorem dX7_foresees_291 : decode cX7_foresees 291 = .ok (.return_, 1) := by decide +kernel
theorem dX7_apart_0 : decode cX7_apart 0 = .ok (.iload_n 0, 1) := by decide +kernel
theorem dX7_apart_1 : decode cX7_apart 1 = .ok (.iload_n 2, 1) := by decide +kernel
theorem dX7_apart_2 : decode cX7_apart 2 = .ok (.if_icmp .ge 9, 3) := by decide +kernel
theorem dX7_apart_5 : decode cX7_apart 5 = .ok (.iload_n 2, 1) := by decide +kernel
theorem dX7_apart_6 : decode cX7_apart 6 = .ok (.iload_n 0, 1) := by decide +kernel
theorem dX7_apart_7 : decode cX7_apart 7 = .ok (.isub, 1) := by decide +kernel
theorem dX7_apart_8 : decode cX7_apart 8 = .ok (.goto 6, 3) := by decide +kernel
theorem dX7_apart_11 : decode cX7_apart 11 = .ok (.iload_n 0, 1) := by decide +kernel
theorem dX7_apart_12 : decode cX7_apart 12 = .ok (.iload_n 2, 1) := by decide +kernel
theorem dX7_apart_13 : decode cX7_apart 13 = .ok (.isub, 1) := by decide +kernel
theorem dX7_apart_14 : decode cX7_apart 14 = .ok (.iload_n 1, 1) := by decide +kernel
theorem dX7_apart_15 : decode cX7_apart 15 = .ok (.iload_n 3, 1) := by decide +kernel
theorem dX7_apart_16 : decode cX7_apart 16 = .ok (.if_icmp .ge 9, 3) := by decide +kernel
theorem dX7_apart_19 : decode cX7_apart 19 = .ok (.iload_n 3, 1) := by decide +kernel
theorem dX7_apart_20 : decode cX7_apart 20 = .ok (.iload_n 1, 1) := by decide +kernel
theorem dX7_apart_21 : decode cX7_apart 21 = .ok (.isub, 1) := by decide +kernel
theorem dX7_apart_22 : decode cX7_apart 22 = .ok (.goto 6, 3) := by decide +kernel
theorem dX7_apart_25 : decode cX7_apart 25 = .ok (.iload_n 1, 1) := by decide +kernel
theorem dX7_apart_26 : decode cX7_apart 26 = .ok (.iload_n 3, 1) := by decide +kernel
theorem dX7_apart_27 : decode cX7_apart 27 = .ok (.isub, 1) := by decide +kernel
theorem dX7_apart_28 : decode cX7_apart 28 = .ok (.iadd, 1) := by decide +kernel
theorem dX7_apart_29 : decode cX7_apart 29 = .ok (.ireturn, 1) := by decide +kernel
set_option maxRecDepth 20000 in
theorem ggX7_walks_X7_in : GoodIn wsX7_walks wsX7_in := goodIn_r _ [12] (by decide +kernel) (by decide +kernel)
set_option maxRecDepth 20000 in
theorem gX7_walks_X7_in : GoodIn wsX7_walks (va_wsS RX7 96 yX7_in wsX7_in) := goodIn_app (goodIn_of _ (by decide +kernel)) ggX7_walks_X7_in
set_option maxRecDepth 20000 in
theorem ggX7_walks_X7_chooses : GoodIn wsX7_walks wsX7_chooses := goodIn_r _ [16, 17, 2, 45, 46, 47, 48, 49, 50, 51, 52, 53, 54, 55, 56, 57, 58, 59, 60, 61, 62, 63, 64, 65, 66, 67, 68, 69, 70, 71, 72, 73, 74, 75, 76, 77, 78, 79, 80, 81, 82, 83] (by decide +kernel) (by decide +kernel)
set_option maxRecDepth 20000 in
theorem gX7_walks_X7_chooses : GoodIn wsX7_walks (wsV RX7 183 RX7 yX7_chooses wsX7_chooses) := goodIn_app (goodIn_of _ (by decide +kernel)) ggX7_walks_X7_chooses
set_option maxRecDepth 20000 in
theorem ggX7_walks_X7_foresees : GoodIn wsX7_walks wsX7_foresees := goodIn_r _ [21, 2, 22, 23, 6, 24, 25, 26, 27, 28, 29, 30, 31, 11, 32, 33, 34, 35, 36, 37, 45, 46, 47, 48, 49, 50, 51, 52, 53, 54, 55, 56, 57, 58, 59, 60, 61, 62, 63, 64, 65, 66, 67, 68, 69, 70, 71, 72, 73, 74, 75, 76, 77, 78, 79, 80, 81, 82, 83] (by decide +kernel) (by decide +kernel)
set_option maxRecDepth 20000 in
theorem gX7_walks_X7_foresees : GoodIn wsX7_walks (wsV RX7 186 RX7 yX7_foresees wsX7_foresees) := goodIn_app (goodIn_of _ (by decide +kernel)) ggX7_walks_X7_foresees
set_option maxRecDepth 20000 in
theorem ggX7_walks_X7_orders : GoodIn wsX7_walks wsX7_orders := goodIn_r _ [41, 3, 45, 46, 47, 48, 49, 50, 51, 52, 53, 54, 55, 56, 57, 58, 59, 60, 61, 62, 63, 64, 65, 66, 67, 68, 69, 70, 71, 72, 73, 74, 75, 76, 77, 78, 79, 80, 81, 82, 83] (by decide +kernel) (by decide +kernel)
set_option maxRecDepth 20000 in
theorem gX7_walks_X7_orders : GoodIn wsX7_walks (wsV RX7 192 RX7 yX7_orders wsX7_orders) := goodIn_app (goodIn_of _ (by decide +kernel)) ggX7_walks_X7_orders
set_option maxRecDepth 20000 in
theorem ggX7_walks_X7_apart : GoodIn wsX7_walks wsX7_apart := goodIn_r _ [44] (by decide +kernel) (by decide +kernel)
set_option maxRecDepth 20000 in
theorem gX7_walks_X7_apart : GoodIn wsX7_walks (va_wsS RX7 196 yX7_apart wsX7_apart) := goodIn_app (goodIn_of _ (by decide +kernel)) ggX7_walks_X7_apart
theorem dX7_walks_0 : decode cX7_walks 0 = .ok (.iload_n 3, 1) := by decide +kernel
theorem dX7_walks_1 : decode cX7_walks 1 = .ok (.iconst 0, 1) := by decide +kernel
theorem dX7_walks_2 : decode cX7_walks 2 = .ok (.sipush 9999, 3) := by decide +kernel
theorem dX7_walks_5 : decode cX7_walks 5 = .ok (.invokestatic 96, 3) := by decide +kernel
theorem dX7_walks_8 : decode cX7_walks 8 = .ok (.ifCond .eq 12, 3) := by decide +kernel
theorem dX7_walks_11 : decode cX7_walks 11 = .ok (.aload_n 0, 1) := by decide +kernel
theorem dX7_walks_12 : decode cX7_walks 12 = .ok (.iload_n 1, 1) := by decide +kernel
theorem dX7_walks_13 : decode cX7_walks 13 = .ok (.iload_n 2, 1) := by decide +kernel
theorem dX7_walks_14 : decode cX7_walks 14 = .ok (.invokevirtual 183, 3) := by decide +kernel
theorem dX7_walks_17 : decode cX7_walks 17 = .ok (.goto 4, 3) := by decide +kernel
theorem dX7_walks_20 : decode cX7_walks 20 = .ok (.iconst (-1), 1) := by decide +kernel
theorem dX7_walks_21 : decode cX7_walks 21 = .ok (.istore 4, 2) := by decide +kernel
theorem dX7_walks_23 : decode cX7_walks 23 = .ok (.iload 4, 2) := by decide +kernel
theorem dX7_walks_25 : decode cX7_walks 25 = .ok (.iconst (-1), 1) := by decide +kernel
theorem dX7_walks_26 : decode cX7_walks 26 = .ok (.if_icmp .ne 5, 3) := by decide +kernel
theorem dX7_walks_29 : decode cX7_walks 29 = .ok (.iconst (-1), 1) := by decide +kernel
theorem dX7_walks_30 : decode cX7_walks 30 = .ok (.ireturn, 1) := by decide +kernel
theorem dX7_walks_31 : decode cX7_walks 31 = .ok (.iconst 0, 1) := by decide +kernel
theorem dX7_walks_32 : decode cX7_walks 32 = .ok (.istore 5, 2) := by decide +kernel
theorem dX7_walks_34 : decode cX7_walks 34 = .ok (.iload 5, 2) := by decide +kernel
theorem dX7_walks_36 : decode cX7_walks 36 = .ok (.iload 4, 2) := by decide +kernel
theorem dX7_walks_38 : decode cX7_walks 38 = .ok (.if_icmp .ge 15, 3) := by decide +kernel
theorem dX7_walks_41 : decode cX7_walks 41 = .ok (.aload_n 0, 1) := by decide +kernel
theorem dX7_walks_42 : decode cX7_walks 42 = .ok (.iload 5, 2) := by decide +kernel
theorem dX7_walks_44 : decode cX7_walks 44 = .ok (.invokevirtual 186, 3) := by decide +kernel
theorem dX7_walks_47 : decode cX7_walks 47 = .ok (.iinc 5 1, 3) := by decide +kernel
theorem dX7_walks_50 : decode cX7_walks 50 = .ok (.goto (-16), 3) := by decide +kernel
theorem dX7_walks_53 : decode cX7_walks 53 = .ok (.iconst 1, 1) := by decide +kernel
theorem dX7_walks_54 : decode cX7_walks 54 = .ok (.istore 5, 2) := by decide +kernel
theorem dX7_walks_56 : decode cX7_walks 56 = .ok (.iconst 2, 1) := by decide +kernel
theorem dX7_walks_57 : decode cX7_walks 57 = .ok (.istore 6, 2) := by decide +kernel
theorem dX7_walks_59 : decode cX7_walks 59 = .ok (.iload 6, 2) := by decide +kernel
theorem dX7_walks_61 : decode cX7_walks 61 = .ok (.iload 4, 2) := by decide +kernel
theorem dX7_walks_63 : decode cX7_walks 63 = .ok (.if_icmp .gt 16, 3) := by decide +kernel
theorem dX7_walks_66 : decode cX7_walks 66 = .ok (.iload 5, 2) := by decide +kernel
theorem dX7_walks_68 : decode cX7_walks 68 = .ok (.iload 6, 2) := by decide +kernel
theorem dX7_walks_70 : decode cX7_walks 70 = .ok (.imul, 1) := by decide +kernel
theorem dX7_walks_71 : decode cX7_walks 71 = .ok (.istore 5, 2) := by decide +kernel
theorem dX7_walks_73 : decode cX7_walks 73 = .ok (.iinc 6 1, 3) := by decide +kernel
theorem dX7_walks_76 : decode cX7_walks 76 = .ok (.goto (-17), 3) := by decide +kernel
theorem dX7_walks_79 : decode cX7_walks 79 = .ok (.aload_n 0, 1) := by decide +kernel
theorem dX7_walks_80 : decode cX7_walks 80 = .ok (.iconst (-1), 1) := by decide +kernel
theorem dX7_walks_81 : decode cX7_walks 81 = .ok (.putfield 189, 3) := by decide +kernel
theorem dX7_walks_84 : decode cX7_walks 84 = .ok (.iconst 0, 1) := by decide +kernel
theorem dX7_walks_85 : decode cX7_walks 85 = .ok (.istore 6, 2) := by decide +kernel
theorem dX7_walks_87 : decode cX7_walks 87 = .ok (.iload 6, 2) := by decide +kernel
theorem dX7_walks_89 : decode cX7_walks 89 = .ok (.iload 5, 2) := by decide +kernel
theorem dX7_walks_91 : decode cX7_walks 91 = .ok (.if_icmp .ge 215, 3) := by decide +kernel
theorem dX7_walks_94 : decode cX7_walks 94 = .ok (.aload_n 0, 1) := by decide +kernel
theorem dX7_walks_95 : decode cX7_walks 95 = .ok (.iload 6, 2) := by decide +kernel
theorem dX7_walks_97 : decode cX7_walks 97 = .ok (.iload 4, 2) := by decide +kernel
theorem dX7_walks_99 : decode cX7_walks 99 = .ok (.invokevirtual 192, 3) := by decide +kernel
theorem dX7_walks_102 : decode cX7_walks 102 = .ok (.iconst 0, 1) := by decide +kernel
theorem dX7_walks_103 : decode cX7_walks 103 = .ok (.istore 7, 2) := by decide +kernel
theorem dX7_walks_105 : decode cX7_walks 105 = .ok (.iconst 0, 1) := by decide +kernel
theorem dX7_walks_106 : decode cX7_walks 106 = .ok (.istore 8, 2) := by decide +kernel
theorem dX7_walks_108 : decode cX7_walks 108 = .ok (.iload_n 3, 1) := by decide +kernel
theorem dX7_walks_109 : decode cX7_walks 109 = .ok (.bipush 100, 2) := by decide +kernel
theorem dX7_walks_111 : decode cX7_walks 111 = .ok (.idiv, 1) := by decide +kernel
theorem dX7_walks_112 : decode cX7_walks 112 = .ok (.istore 9, 2) := by decide +kernel
theorem dX7_walks_114 : decode cX7_walks 114 = .ok (.iload_n 3, 1) := by decide +kernel
theorem dX7_walks_115 : decode cX7_walks 115 = .ok (.bipush 100, 2) := by decide +kernel
theorem dX7_walks_117 : decode cX7_walks 117 = .ok (.irem, 1) := by decide +kernel
theorem dX7_walks_118 : decode cX7_walks 118 = .ok (.istore 10, 2) := by decide +kernel
theorem dX7_walks_120 : decode cX7_walks 120 = .ok (.iconst 0, 1) := by decide +kernel
theorem dX7_walks_121 : decode cX7_walks 121 = .ok (.istore 11, 2) := by decide +kernel
theorem dX7_walks_123 : decode cX7_walks 123 = .ok (.iload 11, 2) := by decide +kernel
theorem dX7_walks_125 : decode cX7_walks 125 = .ok (.iload 4, 2) := by decide +kernel
theorem dX7_walks_127 : decode cX7_walks 127 = .ok (.if_icmp .ge 93, 3) := by decide +kernel
theorem dX7_walks_130 : decode cX7_walks 130 = .ok (.aload_n 0, 1) := by decide +kernel
theorem dX7_walks_131 : decode cX7_walks 131 = .ok (.getfield 80, 3) := by decide +kernel
theorem dX7_walks_134 : decode cX7_walks 134 = .ok (.aload_n 0, 1) := by decide +kernel
theorem dX7_walks_135 : decode cX7_walks 135 = .ok (.getfield 86, 3) := by decide +kernel
theorem dX7_walks_138 : decode cX7_walks 138 = .ok (.iload 11, 2) := by decide +kernel
theorem dX7_walks_140 : decode cX7_walks 140 = .ok (.iaload, 1) := by decide +kernel
theorem dX7_walks_141 : decode cX7_walks 141 = .ok (.iaload, 1) := by decide +kernel
theorem dX7_walks_142 : decode cX7_walks 142 = .ok (.istore 12, 2) := by decide +kernel
theorem dX7_walks_144 : decode cX7_walks 144 = .ok (.iload 7, 2) := by decide +kernel
theorem dX7_walks_146 : decode cX7_walks 146 = .ok (.iload 9, 2) := by decide +kernel
theorem dX7_walks_148 : decode cX7_walks 148 = .ok (.iload 10, 2) := by decide +kernel
theorem dX7_walks_150 : decode cX7_walks 150 = .ok (.aload_n 0, 1) := by decide +kernel
theorem dX7_walks_151 : decode cX7_walks 151 = .ok (.getfield 19, 3) := by decide +kernel
theorem dX7_walks_154 : decode cX7_walks 154 = .ok (.iload 12, 2) := by decide +kernel
theorem dX7_walks_156 : decode cX7_walks 156 = .ok (.iaload, 1) := by decide +kernel
theorem dX7_walks_157 : decode cX7_walks 157 = .ok (.aload_n 0, 1) := by decide +kernel
theorem dX7_walks_158 : decode cX7_walks 158 = .ok (.getfield 22, 3) := by decide +kernel
theorem dX7_walks_161 : decode cX7_walks 161 = .ok (.iload 12, 2) := by decide +kernel
theorem dX7_walks_163 : decode cX7_walks 163 = .ok (.iaload, 1) := by decide +kernel
theorem dX7_walks_164 : decode cX7_walks 164 = .ok (.invokestatic 196, 3) := by decide +kernel
theorem dX7_walks_167 : decode cX7_walks 167 = .ok (.iadd, 1) := by decide +kernel
theorem dX7_walks_168 : decode cX7_walks 168 = .ok (.istore 7, 2) := by decide +kernel
theorem dX7_walks_170 : decode cX7_walks 170 = .ok (.aload_n 0, 1) := by decide +kernel
theorem dX7_walks_171 : decode cX7_walks 171 = .ok (.getfield 19, 3) := by decide +kernel
theorem dX7_walks_174 : decode cX7_walks 174 = .ok (.iload 12, 2) := by decide +kernel
theorem dX7_walks_176 : decode cX7_walks 176 = .ok (.iaload, 1) := by decide +kernel
theorem dX7_walks_177 : decode cX7_walks 177 = .ok (.istore 9, 2) := by decide +kernel
theorem dX7_walks_179 : decode cX7_walks 179 = .ok (.aload_n 0, 1) := by decide +kernel
theorem dX7_walks_180 : decode cX7_walks 180 = .ok (.getfield 22, 3) := by decide +kernel
theorem dX7_walks_183 : decode cX7_walks 183 = .ok (.iload 12, 2) := by decide +kernel
theorem dX7_walks_185 : decode cX7_walks 185 = .ok (.iaload, 1) := by decide +kernel
theorem dX7_walks_186 : decode cX7_walks 186 = .ok (.istore 10, 2) := by decide +kernel
theorem dX7_walks_188 : decode cX7_walks 188 = .ok (.iload 8, 2) := by decide +kernel
theorem dX7_walks_190 : decode cX7_walks 190 = .ok (.aload_n 0, 1) := by decide +kernel
theorem dX7_walks_191 : decode cX7_walks 191 = .ok (.getfield 83, 3) := by decide +kernel
theorem dX7_walks_194 : decode cX7_walks 194 = .ok (.bipush 24, 2) := by decide +kernel
theorem dX7_walks_196 : decode cX7_walks 196 = .ok (.aload_n 0, 1) := by decide +kernel
theorem dX7_walks_197 : decode cX7_walks 197 = .ok (.getfield 86, 3) := by decide +kernel
theorem dX7_walks_200 : decode cX7_walks 200 = .ok (.iload 11, 2) := by decide +kernel
theorem dX7_walks_202 : decode cX7_walks 202 = .ok (.iaload, 1) := by decide +kernel
theorem dX7_walks_203 : decode cX7_walks 203 = .ok (.imul, 1) := by decide +kernel
theorem dX7_walks_204 : decode cX7_walks 204 = .ok (.iload 7, 2) := by decide +kernel
theorem dX7_walks_206 : decode cX7_walks 206 = .ok (.bipush 60, 2) := by decide +kernel
theorem dX7_walks_208 : decode cX7_walks 208 = .ok (.idiv, 1) := by decide +kernel
theorem dX7_walks_209 : decode cX7_walks 209 = .ok (.iadd, 1) := by decide +kernel
theorem dX7_walks_210 : decode cX7_walks 210 = .ok (.iaload, 1) := by decide +kernel
theorem dX7_walks_211 : decode cX7_walks 211 = .ok (.iadd, 1) := by decide +kernel
theorem dX7_walks_212 : decode cX7_walks 212 = .ok (.istore 8, 2) := by decide +kernel
theorem dX7_walks_214 : decode cX7_walks 214 = .ok (.iinc 11 1, 3) := by decide +kernel
theorem dX7_walks_217 : decode cX7_walks 217 = .ok (.goto (-94), 3) := by decide +kernel
theorem dX7_walks_220 : decode cX7_walks 220 = .ok (.aload_n 0, 1) := by decide +kernel
theorem dX7_walks_221 : decode cX7_walks 221 = .ok (.getfield 189, 3) := by decide +kernel
theorem dX7_walks_224 : decode cX7_walks 224 = .ok (.iconst (-1), 1) := by decide +kernel
theorem dX7_walks_225 : decode cX7_walks 225 = .ok (.if_icmp .eq 33, 3) := by decide +kernel
theorem dX7_walks_228 : decode cX7_walks 228 = .ok (.iload 8, 2) := by decide +kernel
theorem dX7_walks_230 : decode cX7_walks 230 = .ok (.aload_n 0, 1) := by decide +kernel
theorem dX7_walks_231 : decode cX7_walks 231 = .ok (.getfield 189, 3) := by decide +kernel
theorem dX7_walks_234 : decode cX7_walks 234 = .ok (.if_icmp .gt 66, 3) := by decide +kernel
theorem dX7_walks_237 : decode cX7_walks 237 = .ok (.iload 8, 2) := by decide +kernel
theorem dX7_walks_239 : decode cX7_walks 239 = .ok (.aload_n 0, 1) := by decide +kernel
theorem dX7_walks_240 : decode cX7_walks 240 = .ok (.getfield 189, 3) := by decide +kernel
theorem dX7_walks_243 : decode cX7_walks 243 = .ok (.if_icmp .ne 15, 3) := by decide +kernel
theorem dX7_walks_246 : decode cX7_walks 246 = .ok (.iload 7, 2) := by decide +kernel
theorem dX7_walks_248 : decode cX7_walks 248 = .ok (.aload_n 0, 1) := by decide +kernel
theorem dX7_walks_249 : decode cX7_walks 249 = .ok (.getfield 200, 3) := by decide +kernel
theorem dX7_walks_252 : decode cX7_walks 252 = .ok (.if_icmp .lt 6, 3) := by decide +kernel
theorem dX7_walks_255 : decode cX7_walks 255 = .ok (.goto 45, 3) := by decide +kernel
theorem dX7_walks_258 : decode cX7_walks 258 = .ok (.aload_n 0, 1) := by decide +kernel
theorem dX7_walks_259 : decode cX7_walks 259 = .ok (.iload 8, 2) := by decide +kernel
theorem dX7_walks_261 : decode cX7_walks 261 = .ok (.putfield 189, 3) := by decide +kernel
theorem dX7_walks_264 : decode cX7_walks 264 = .ok (.aload_n 0, 1) := by decide +kernel
theorem dX7_walks_265 : decode cX7_walks 265 = .ok (.iload 7, 2) := by decide +kernel
theorem dX7_walks_267 : decode cX7_walks 267 = .ok (.putfield 200, 3) := by decide +kernel
theorem dX7_walks_270 : decode cX7_walks 270 = .ok (.iconst 0, 1) := by decide +kernel
theorem dX7_walks_271 : decode cX7_walks 271 = .ok (.istore 11, 2) := by decide +kernel
theorem dX7_walks_273 : decode cX7_walks 273 = .ok (.iload 11, 2) := by decide +kernel
theorem dX7_walks_275 : decode cX7_walks 275 = .ok (.iload 4, 2) := by decide +kernel
theorem dX7_walks_277 : decode cX7_walks 277 = .ok (.if_icmp .ge 23, 3) := by decide +kernel
theorem dX7_walks_280 : decode cX7_walks 280 = .ok (.aload_n 0, 1) := by decide +kernel
theorem dX7_walks_281 : decode cX7_walks 281 = .ok (.getfield 89, 3) := by decide +kernel
theorem dX7_walks_284 : decode cX7_walks 284 = .ok (.iload 11, 2) := by decide +kernel
theorem dX7_walks_286 : decode cX7_walks 286 = .ok (.aload_n 0, 1) := by decide +kernel
theorem dX7_walks_287 : decode cX7_walks 287 = .ok (.getfield 86, 3) := by decide +kernel
theorem dX7_walks_290 : decode cX7_walks 290 = .ok (.iload 11, 2) := by decide +kernel
theorem dX7_walks_292 : decode cX7_walks 292 = .ok (.iaload, 1) := by decide +kernel
theorem dX7_walks_293 : decode cX7_walks 293 = .ok (.iastore, 1) := by decide +kernel
theorem dX7_walks_294 : decode cX7_walks 294 = .ok (.iinc 11 1, 3) := by decide +kernel
theorem dX7_walks_297 : decode cX7_walks 297 = .ok (.goto (-24), 3) := by decide +kernel
theorem dX7_walks_300 : decode cX7_walks 300 = .ok (.iinc 6 1, 3) := by decide +kernel
theorem dX7_walks_303 : decode cX7_walks 303 = .ok (.goto (-216), 3) := by decide +kernel
theorem dX7_walks_306 : decode cX7_walks 306 = .ok (.iload 4, 2) := by decide +kernel
theorem dX7_walks_308 : decode cX7_walks 308 = .ok (.ireturn, 1) := by decide +kernel
theorem dX7_orders_0 : decode cX7_orders 0 = .ok (.iload_n 1, 1) := by decide +kernel
theorem dX7_orders_1 : decode cX7_orders 1 = .ok (.istore_n 3, 1) := by decide +kernel
theorem dX7_orders_2 : decode cX7_orders 2 = .ok (.iconst 0, 1) := by decide +kernel
theorem dX7_orders_3 : decode cX7_orders 3 = .ok (.istore 4, 2) := by decide +kernel
theorem dX7_orders_5 : decode cX7_orders 5 = .ok (.iconst 0, 1) := by decide +kernel
theorem dX7_orders_6 : decode cX7_orders 6 = .ok (.istore 5, 2) := by decide +kernel
theorem dX7_orders_8 : decode cX7_orders 8 = .ok (.iload 5, 2) := by decide +kernel
theorem dX7_orders_10 : decode cX7_orders 10 = .ok (.iload_n 2, 1) := by decide +kernel
theorem dX7_orders_11 : decode cX7_orders 11 = .ok (.if_icmp .ge 117, 3) := by decide +kernel
theorem dX7_orders_14 : decode cX7_orders 14 = .ok (.iconst 1, 1) := by decide +kernel
theorem dX7_orders_15 : decode cX7_orders 15 = .ok (.istore 6, 2) := by decide +kernel
theorem dX7_orders_17 : decode cX7_orders 17 = .ok (.iconst 2, 1) := by decide +kernel
theorem dX7_orders_18 : decode cX7_orders 18 = .ok (.istore 7, 2) := by decide +kernel
theorem dX7_orders_20 : decode cX7_orders 20 = .ok (.iload 7, 2) := by decide +kernel
theorem dX7_orders_22 : decode cX7_orders 22 = .ok (.iload_n 2, 1) := by decide +kernel
theorem dX7_orders_23 : decode cX7_orders 23 = .ok (.iload 5, 2) := by decide +kernel
theorem dX7_orders_25 : decode cX7_orders 25 = .ok (.isub, 1) := by decide +kernel
theorem dX7_orders_26 : decode cX7_orders 26 = .ok (.if_icmp .ge 16, 3) := by decide +kernel
theorem dX7_orders_29 : decode cX7_orders 29 = .ok (.iload 6, 2) := by decide +kernel
theorem dX7_orders_31 : decode cX7_orders 31 = .ok (.iload 7, 2) := by decide +kernel
theorem dX7_orders_33 : decode cX7_orders 33 = .ok (.imul, 1) := by decide +kernel
theorem dX7_orders_34 : decode cX7_orders 34 = .ok (.istore 6, 2) := by decide +kernel
theorem dX7_orders_36 : decode cX7_orders 36 = .ok (.iinc 7 1, 3) := by decide +kernel
theorem dX7_orders_39 : decode cX7_orders 39 = .ok (.goto (-19), 3) := by decide +kernel
theorem dX7_orders_42 : decode cX7_orders 42 = .ok (.iload_n 3, 1) := by decide +kernel
theorem dX7_orders_43 : decode cX7_orders 43 = .ok (.iload 6, 2) := by decide +kernel
theorem dX7_orders_45 : decode cX7_orders 45 = .ok (.idiv, 1) := by decide +kernel
theorem dX7_orders_46 : decode cX7_orders 46 = .ok (.istore 7, 2) := by decide +kernel
theorem dX7_orders_48 : decode cX7_orders 48 = .ok (.iload_n 3, 1) := by decide +kernel
theorem dX7_orders_49 : decode cX7_orders 49 = .ok (.iload 6, 2) := by decide +kernel
theorem dX7_orders_51 : decode cX7_orders 51 = .ok (.irem, 1) := by decide +kernel
theorem dX7_orders_52 : decode cX7_orders 52 = .ok (.istore_n 3, 1) := by decide +kernel
theorem dX7_orders_53 : decode cX7_orders 53 = .ok (.iconst 0, 1) := by decide +kernel
theorem dX7_orders_54 : decode cX7_orders 54 = .ok (.istore 8, 2) := by decide +kernel
theorem dX7_orders_56 : decode cX7_orders 56 = .ok (.iload 4, 2) := by decide +kernel
theorem dX7_orders_58 : decode cX7_orders 58 = .ok (.iload 8, 2) := by decide +kernel
theorem dX7_orders_60 : decode cX7_orders 60 = .ok (.ishr, 1) := by decide +kernel
theorem dX7_orders_61 : decode cX7_orders 61 = .ok (.iconst 1, 1) := by decide +kernel
theorem dX7_orders_62 : decode cX7_orders 62 = .ok (.iand, 1) := by decide +kernel
theorem dX7_orders_63 : decode cX7_orders 63 = .ok (.iconst 1, 1) := by decide +kernel
theorem dX7_orders_64 : decode cX7_orders 64 = .ok (.if_icmp .ne 9, 3) := by decide +kernel
theorem dX7_orders_67 : decode cX7_orders 67 = .ok (.iinc 8 1, 3) := by decide +kernel
theorem dX7_orders_70 : decode cX7_orders 70 = .ok (.goto (-14), 3) := by decide +kernel
theorem dX7_orders_73 : decode cX7_orders 73 = .ok (.iload 7, 2) := by decide +kernel
theorem dX7_orders_75 : decode cX7_orders 75 = .ok (.ifCond .le 29, 3) := by decide +kernel
theorem dX7_orders_78 : decode cX7_orders 78 = .ok (.iinc 8 1, 3) := by decide +kernel
theorem dX7_orders_81 : decode cX7_orders 81 = .ok (.iload 4, 2) := by decide +kernel
theorem dX7_orders_83 : decode cX7_orders 83 = .ok (.iload 8, 2) := by decide +kernel
theorem dX7_orders_85 : decode cX7_orders 85 = .ok (.ishr, 1) := by decide +kernel
theorem dX7_orders_86 : decode cX7_orders 86 = .ok (.iconst 1, 1) := by decide +kernel
theorem dX7_orders_87 : decode cX7_orders 87 = .ok (.iand, 1) := by decide +kernel
theorem dX7_orders_88 : decode cX7_orders 88 = .ok (.iconst 1, 1) := by decide +kernel
theorem dX7_orders_89 : decode cX7_orders 89 = .ok (.if_icmp .ne 9, 3) := by decide +kernel
theorem dX7_orders_92 : decode cX7_orders 92 = .ok (.iinc 8 1, 3) := by decide +kernel
theorem dX7_orders_95 : decode cX7_orders 95 = .ok (.goto (-14), 3) := by decide +kernel
theorem dX7_orders_98 : decode cX7_orders 98 = .ok (.iinc 7 (-1), 3) := by decide +kernel
theorem dX7_orders_101 : decode cX7_orders 101 = .ok (.goto (-28), 3) := by decide +kernel
theorem dX7_orders_104 : decode cX7_orders 104 = .ok (.aload_n 0, 1) := by decide +kernel
theorem dX7_orders_105 : decode cX7_orders 105 = .ok (.getfield 86, 3) := by decide +kernel
theorem dX7_orders_108 : decode cX7_orders 108 = .ok (.iload 5, 2) := by decide +kernel
theorem dX7_orders_110 : decode cX7_orders 110 = .ok (.iload 8, 2) := by decide +kernel
theorem dX7_orders_112 : decode cX7_orders 112 = .ok (.iastore, 1) := by decide +kernel
theorem dX7_orders_113 : decode cX7_orders 113 = .ok (.iload 4, 2) := by decide +kernel
theorem dX7_orders_115 : decode cX7_orders 115 = .ok (.iconst 1, 1) := by decide +kernel
theorem dX7_orders_116 : decode cX7_orders 116 = .ok (.iload 8, 2) := by decide +kernel
theorem dX7_orders_118 : decode cX7_orders 118 = .ok (.ishl, 1) := by decide +kernel
theorem dX7_orders_119 : decode cX7_orders 119 = .ok (.ior, 1) := by decide +kernel
theorem dX7_orders_120 : decode cX7_orders 120 = .ok (.istore 4, 2) := by decide +kernel
theorem dX7_orders_122 : decode cX7_orders 122 = .ok (.iinc 5 1, 3) := by decide +kernel
theorem dX7_orders_125 : decode cX7_orders 125 = .ok (.goto (-117), 3) := by decide +kernel
theorem dX7_orders_128 : decode cX7_orders 128 = .ok (.return_, 1) := by decide +kernel
set_option maxRecDepth 20000 in
theorem ggX7_walk_X7_walks : GoodIn wsX7_walk wsX7_walks := goodIn_r _ [7, 8, 1, 9, 10, 11, 12, 13, 2, 14, 15, 6, 16, 17, 18, 19, 20, 21, 22, 23, 24, 25, 26, 27, 28, 29, 30, 31, 32, 33, 34, 35, 36, 37, 38, 39, 40, 41, 42, 43, 44, 45, 46, 47, 48, 49, 50, 51, 52, 53, 54, 55, 56, 57, 58, 59, 60, 61, 62, 63, 64, 65, 66, 67, 68, 69, 70, 71, 72, 73, 74, 75, 76, 77, 78, 79, 80, 81, 82, 83, 84, 85, 86, 87] (by decide +kernel) (by decide +kernel)
set_option maxRecDepth 20000 in
theorem gX7_walk_X7_walks : GoodIn wsX7_walk (wsV RX7 203 RX7 yX7_walks wsX7_walks) := goodIn_app (goodIn_of _ (by decide +kernel)) ggX7_walk_X7_walks
set_option maxRecDepth 20000 in
theorem ggX7_walk_X7_in : GoodIn wsX7_walk wsX7_in := goodIn_r _ [16] (by decide +kernel) (by decide +kernel)
set_option maxRecDepth 20000 in
theorem gX7_walk_X7_in : GoodIn wsX7_walk (va_wsS RX7 96 yX7_in wsX7_in) := goodIn_app (goodIn_of _ (by decide +kernel)) ggX7_walk_X7_in
theorem dX7_walk_0 : decode cX7_walk 0 = .ok (.aload_n 0, 1) := by decide +kernel
theorem dX7_walk_1 : decode cX7_walk 1 = .ok (.iload_n 1, 1) := by decide +kernel
theorem dX7_walk_2 : decode cX7_walk 2 = .ok (.iload_n 2, 1) := by decide +kernel
theorem dX7_walk_3 : decode cX7_walk 3 = .ok (.iload_n 3, 1) := by decide +kernel
theorem dX7_walk_4 : decode cX7_walk 4 = .ok (.invokevirtual 203, 3) := by decide +kernel
theorem dX7_walk_7 : decode cX7_walk 7 = .ok (.istore 5, 2) := by decide +kernel
theorem dX7_walk_9 : decode cX7_walk 9 = .ok (.iload 4, 2) := by decide +kernel
theorem dX7_walk_11 : decode cX7_walk 11 = .ok (.iconst 0, 1) := by decide +kernel
theorem dX7_walk_12 : decode cX7_walk 12 = .ok (.iload 5, 2) := by decide +kernel
theorem dX7_walk_14 : decode cX7_walk 14 = .ok (.iconst 1, 1) := by decide +kernel
theorem dX7_walk_15 : decode cX7_walk 15 = .ok (.isub, 1) := by decide +kernel
theorem dX7_walk_16 : decode cX7_walk 16 = .ok (.invokestatic 96, 3) := by decide +kernel
theorem dX7_walk_19 : decode cX7_walk 19 = .ok (.ifCond .eq 18, 3) := by decide +kernel
theorem dX7_walk_22 : decode cX7_walk 22 = .ok (.aload_n 0, 1) := by decide +kernel
theorem dX7_walk_23 : decode cX7_walk 23 = .ok (.getfield 80, 3) := by decide +kernel
theorem dX7_walk_26 : decode cX7_walk 26 = .ok (.aload_n 0, 1) := by decide +kernel
theorem dX7_walk_27 : decode cX7_walk 27 = .ok (.getfield 89, 3) := by decide +kernel
theorem dX7_walk_30 : decode cX7_walk 30 = .ok (.iload 4, 2) := by decide +kernel
theorem dX7_walk_32 : decode cX7_walk 32 = .ok (.iaload, 1) := by decide +kernel
theorem dX7_walk_33 : decode cX7_walk 33 = .ok (.iaload, 1) := by decide +kernel
theorem dX7_walk_34 : decode cX7_walk 34 = .ok (.goto 4, 3) := by decide +kernel
theorem dX7_walk_37 : decode cX7_walk 37 = .ok (.iconst (-1), 1) := by decide +kernel
theorem dX7_walk_38 : decode cX7_walk 38 = .ok (.ireturn, 1) := by decide +kernel
set_option maxRecDepth 20000 in
theorem ggX7_walked_X7_in : GoodIn wsX7_walked wsX7_in := goodIn_r _ [6] (by decide +kernel) (by decide +kernel)
set_option maxRecDepth 20000 in
theorem gX7_walked_X7_in : GoodIn wsX7_walked (va_wsS RX7 96 yX7_in wsX7_in) := goodIn_app (goodIn_of _ (by decide +kernel)) ggX7_walked_X7_in
set_option maxRecDepth 20000 in
theorem ggX7_walked_X7_walks : GoodIn wsX7_walked wsX7_walks := goodIn_r _ [10, 1, 11, 12, 13, 14, 15, 2, 16, 3, 4, 5, 6, 17, 18, 19, 20, 21, 22, 23, 24, 25, 26, 27, 28, 29, 30, 31, 32, 33, 34, 35, 36, 37, 38, 39, 40, 41, 42, 43, 44, 45, 46, 47, 48, 49, 50, 51, 52, 53, 54, 55, 56, 57, 58, 59, 60, 61, 62, 63, 64, 65, 66, 67, 68, 69, 70, 71, 72, 73, 74, 75, 76, 77, 78, 79, 80, 81, 82, 83, 84, 85, 86, 87] (by decide +kernel) (by decide +kernel)
set_option maxRecDepth 20000 in
theorem gX7_walked_X7_walks : GoodIn wsX7_walked (wsV RX7 203 RX7 yX7_walks wsX7_walks) := goodIn_app (goodIn_of _ (by decide +kernel)) ggX7_walked_X7_walks
theorem dX7_walked_0 : decode cX7_walked 0 = .ok (.iload 4, 2) := by decide +kernel
theorem dX7_walked_2 : decode cX7_walked 2 = .ok (.iconst 0, 1) := by decide +kernel
theorem dX7_walked_3 : decode cX7_walked 3 = .ok (.iconst 1, 1) := by decide +kernel
theorem dX7_walked_4 : decode cX7_walked 4 = .ok (.invokestatic 96, 3) := by decide +kernel
theorem dX7_walked_7 : decode cX7_walked 7 = .ok (.ifCond .eq 14, 3) := by decide +kernel
theorem dX7_walked_10 : decode cX7_walked 10 = .ok (.aload_n 0, 1) := by decide +kernel
theorem dX7_walked_11 : decode cX7_walked 11 = .ok (.iload_n 1, 1) := by decide +kernel
theorem dX7_walked_12 : decode cX7_walked 12 = .ok (.iload_n 2, 1) := by decide +kernel
theorem dX7_walked_13 : decode cX7_walked 13 = .ok (.iload_n 3, 1) := by decide +kernel
theorem dX7_walked_14 : decode cX7_walked 14 = .ok (.invokevirtual 203, 3) := by decide +kernel
theorem dX7_walked_17 : decode cX7_walked 17 = .ok (.iconst (-1), 1) := by decide +kernel
theorem dX7_walked_18 : decode cX7_walked 18 = .ok (.if_icmp .ne 5, 3) := by decide +kernel
theorem dX7_walked_21 : decode cX7_walked 21 = .ok (.iconst (-1), 1) := by decide +kernel
theorem dX7_walked_22 : decode cX7_walked 22 = .ok (.ireturn, 1) := by decide +kernel
theorem dX7_walked_23 : decode cX7_walked 23 = .ok (.iload 4, 2) := by decide +kernel
theorem dX7_walked_25 : decode cX7_walked 25 = .ok (.ifCond .ne 10, 3) := by decide +kernel
theorem dX7_walked_28 : decode cX7_walked 28 = .ok (.aload_n 0, 1) := by decide +kernel
theorem dX7_walked_29 : decode cX7_walked 29 = .ok (.getfield 189, 3) := by decide +kernel
theorem dX7_walked_32 : decode cX7_walked 32 = .ok (.goto 7, 3) := by decide +kernel
theorem dX7_walked_35 : decode cX7_walked 35 = .ok (.aload_n 0, 1) := by decide +kernel
theorem dX7_walked_36 : decode cX7_walked 36 = .ok (.getfield 200, 3) := by decide +kernel
theorem dX7_walked_39 : decode cX7_walked 39 = .ok (.ireturn, 1) := by decide +kernel
set_option maxRecDepth 20000 in
theorem ggX7_count_X7_inCup : GoodIn wsX7_count wsX7_inCup := goodIn_r _ [15, 16, 17, 18, 19, 20, 21, 22, 23, 24, 25, 26, 27, 28, 29, 30, 31, 32, 33, 34, 35, 36, 37, 38, 39, 40, 41, 42, 43, 44, 45, 46, 47, 48, 49, 50, 51, 52, 53, 54, 55] (by decide +kernel) (by decide +kernel)
set_option maxRecDepth 20000 in
theorem gX7_count_X7_inCup : GoodIn wsX7_count (wsV RX7 124 RX7 yX7_inCup wsX7_inCup) := goodIn_app (goodIn_of _ (by decide +kernel)) ggX7_count_X7_inCup
theorem dX7_count_0 : decode cX7_count 0 = .ok (.iconst 0, 1) := by decide +kernel
theorem dX7_count_1 : decode cX7_count 1 = .ok (.istore_n 2, 1) := by decide +kernel
theorem dX7_count_2 : decode cX7_count 2 = .ok (.iconst 0, 1) := by decide +kernel
theorem dX7_count_3 : decode cX7_count 3 = .ok (.istore_n 3, 1) := by decide +kernel
theorem dX7_count_4 : decode cX7_count 4 = .ok (.iload_n 3, 1) := by decide +kernel
theorem dX7_count_5 : decode cX7_count 5 = .ok (.sipush 180, 3) := by decide +kernel
theorem dX7_count_8 : decode cX7_count 8 = .ok (.if_icmp .ge 23, 3) := by decide +kernel
theorem dX7_count_11 : decode cX7_count 11 = .ok (.iload_n 1, 1) := by decide +kernel
theorem dX7_count_12 : decode cX7_count 12 = .ok (.bipush 7, 2) := by decide +kernel
theorem dX7_count_14 : decode cX7_count 14 = .ok (.if_icmp .ne 17, 3) := by decide +kernel
theorem dX7_count_17 : decode cX7_count 17 = .ok (.iload_n 2, 1) := by decide +kernel
theorem dX7_count_18 : decode cX7_count 18 = .ok (.aload_n 0, 1) := by decide +kernel
theorem dX7_count_19 : decode cX7_count 19 = .ok (.iload_n 3, 1) := by decide +kernel
theorem dX7_count_20 : decode cX7_count 20 = .ok (.invokevirtual 124, 3) := by decide +kernel
theorem dX7_count_23 : decode cX7_count 23 = .ok (.iadd, 1) := by decide +kernel
theorem dX7_count_24 : decode cX7_count 24 = .ok (.istore_n 2, 1) := by decide +kernel
theorem dX7_count_25 : decode cX7_count 25 = .ok (.iinc 3 1, 3) := by decide +kernel
theorem dX7_count_28 : decode cX7_count 28 = .ok (.goto (-24), 3) := by decide +kernel
theorem dX7_count_31 : decode cX7_count 31 = .ok (.iload_n 1, 1) := by decide +kernel
theorem dX7_count_32 : decode cX7_count 32 = .ok (.tableswitch 112 0 10 #[60, 65, 70, 75, 80, 85, 90, 95, 97, 102, 107], 60) := by decide +kernel
theorem dX7_count_92 : decode cX7_count 92 = .ok (.aload_n 0, 1) := by decide +kernel
theorem dX7_count_93 : decode cX7_count 93 = .ok (.getfield 100, 3) := by decide +kernel
theorem dX7_count_96 : decode cX7_count 96 = .ok (.ireturn, 1) := by decide +kernel
theorem dX7_count_97 : decode cX7_count 97 = .ok (.aload_n 0, 1) := by decide +kernel
theorem dX7_count_98 : decode cX7_count 98 = .ok (.getfield 92, 3) := by decide +kernel
theorem dX7_count_101 : decode cX7_count 101 = .ok (.ireturn, 1) := by decide +kernel
theorem dX7_count_102 : decode cX7_count 102 = .ok (.aload_n 0, 1) := by decide +kernel
theorem dX7_count_103 : decode cX7_count 103 = .ok (.getfield 143, 3) := by decide +kernel
theorem dX7_count_106 : decode cX7_count 106 = .ok (.ireturn, 1) := by decide +kernel
theorem dX7_count_107 : decode cX7_count 107 = .ok (.aload_n 0, 1) := by decide +kernel
theorem dX7_count_108 : decode cX7_count 108 = .ok (.getfield 134, 3) := by decide +kernel
theorem dX7_count_111 : decode cX7_count 111 = .ok (.ireturn, 1) := by decide +kernel
theorem dX7_count_112 : decode cX7_count 112 = .ok (.aload_n 0, 1) := by decide +kernel
theorem dX7_count_113 : decode cX7_count 113 = .ok (.getfield 131, 3) := by decide +kernel
theorem dX7_count_116 : decode cX7_count 116 = .ok (.ireturn, 1) := by decide +kernel
theorem dX7_count_117 : decode cX7_count 117 = .ok (.aload_n 0, 1) := by decide +kernel
theorem dX7_count_118 : decode cX7_count 118 = .ok (.getfield 137, 3) := by decide +kernel
theorem dX7_count_121 : decode cX7_count 121 = .ok (.ireturn, 1) := by decide +kernel
theorem dX7_count_122 : decode cX7_count 122 = .ok (.aload_n 0, 1) := by decide +kernel
theorem dX7_count_123 : decode cX7_count 123 = .ok (.getfield 180, 3) := by decide +kernel
theorem dX7_count_126 : decode cX7_count 126 = .ok (.ireturn, 1) := by decide +kernel
theorem dX7_count_127 : decode cX7_count 127 = .ok (.iload_n 2, 1) := by decide +kernel
theorem dX7_count_128 : decode cX7_count 128 = .ok (.ireturn, 1) := by decide +kernel
theorem dX7_count_129 : decode cX7_count 129 = .ok (.aload_n 0, 1) := by decide +kernel
theorem dX7_count_130 : decode cX7_count 130 = .ok (.getfield 156, 3) := by decide +kernel
theorem dX7_count_133 : decode cX7_count 133 = .ok (.ireturn, 1) := by decide +kernel
theorem dX7_count_134 : decode cX7_count 134 = .ok (.aload_n 0, 1) := by decide +kernel
theorem dX7_count_135 : decode cX7_count 135 = .ok (.getfield 165, 3) := by decide +kernel
theorem dX7_count_138 : decode cX7_count 138 = .ok (.ireturn, 1) := by decide +kernel
theorem dX7_count_139 : decode cX7_count 139 = .ok (.aload_n 0, 1) := by decide +kernel
theorem dX7_count_140 : decode cX7_count 140 = .ok (.getfield 168, 3) := by decide +kernel
theorem dX7_count_143 : decode cX7_count 143 = .ok (.ireturn, 1) := by decide +kernel
theorem dX7_count_144 : decode cX7_count 144 = .ok (.iconst (-1), 1) := by decide +kernel
theorem dX7_count_145 : decode cX7_count 145 = .ok (.ireturn, 1) := by decide +kernel
theorem dJ6_bitCount_0f7a4_0 : decode cJ6_bitCount_0f7a4 0 = .ok (.iload_n 0, 1) := by decide +kernel
theorem dJ6_bitCount_0f7a4_1 : decode cJ6_bitCount_0f7a4 1 = .ok (.iload_n 0, 1) := by decide +kernel
theorem dJ6_bitCount_0f7a4_2 : decode cJ6_bitCount_0f7a4 2 = .ok (.iconst 1, 1) := by decide +kernel
theorem dJ6_bitCount_0f7a4_3 : decode cJ6_bitCount_0f7a4 3 = .ok (.iushr, 1) := by decide +kernel
theorem dJ6_bitCount_0f7a4_4 : decode cJ6_bitCount_0f7a4 4 = .ok (.ldc_w 265, 3) := by decide +kernel
theorem dJ6_bitCount_0f7a4_7 : decode cJ6_bitCount_0f7a4 7 = .ok (.iand, 1) := by decide +kernel
theorem dJ6_bitCount_0f7a4_8 : decode cJ6_bitCount_0f7a4 8 = .ok (.isub, 1) := by decide +kernel
theorem dJ6_bitCount_0f7a4_9 : decode cJ6_bitCount_0f7a4 9 = .ok (.istore_n 0, 1) := by decide +kernel
theorem dJ6_bitCount_0f7a4_10 : decode cJ6_bitCount_0f7a4 10 = .ok (.iload_n 0, 1) := by decide +kernel
theorem dJ6_bitCount_0f7a4_11 : decode cJ6_bitCount_0f7a4 11 = .ok (.ldc_w 266, 3) := by decide +kernel
theorem dJ6_bitCount_0f7a4_14 : decode cJ6_bitCount_0f7a4 14 = .ok (.iand, 1) := by decide +kernel
theorem dJ6_bitCount_0f7a4_15 : decode cJ6_bitCount_0f7a4 15 = .ok (.iload_n 0, 1) := by decide +kernel
theorem dJ6_bitCount_0f7a4_16 : decode cJ6_bitCount_0f7a4 16 = .ok (.iconst 2, 1) := by decide +kernel
theorem dJ6_bitCount_0f7a4_17 : decode cJ6_bitCount_0f7a4 17 = .ok (.iushr, 1) := by decide +kernel
theorem dJ6_bitCount_0f7a4_18 : decode cJ6_bitCount_0f7a4 18 = .ok (.ldc_w 266, 3) := by decide +kernel
theorem dJ6_bitCount_0f7a4_21 : decode cJ6_bitCount_0f7a4 21 = .ok (.iand, 1) := by decide +kernel
theorem dJ6_bitCount_0f7a4_22 : decode cJ6_bitCount_0f7a4 22 = .ok (.iadd, 1) := by decide +kernel
theorem dJ6_bitCount_0f7a4_23 : decode cJ6_bitCount_0f7a4 23 = .ok (.istore_n 0, 1) := by decide +kernel
theorem dJ6_bitCount_0f7a4_24 : decode cJ6_bitCount_0f7a4 24 = .ok (.iload_n 0, 1) := by decide +kernel
theorem dJ6_bitCount_0f7a4_25 : decode cJ6_bitCount_0f7a4 25 = .ok (.iload_n 0, 1) := by decide +kernel
theorem dJ6_bitCount_0f7a4_26 : decode cJ6_bitCount_0f7a4 26 = .ok (.iconst 4, 1) := by decide +kernel
theorem dJ6_bitCount_0f7a4_27 : decode cJ6_bitCount_0f7a4 27 = .ok (.iushr, 1) := by decide +kernel
theorem dJ6_bitCount_0f7a4_28 : decode cJ6_bitCount_0f7a4 28 = .ok (.iadd, 1) := by decide +kernel
theorem dJ6_bitCount_0f7a4_29 : decode cJ6_bitCount_0f7a4 29 = .ok (.ldc_w 267, 3) := by decide +kernel
theorem dJ6_bitCount_0f7a4_32 : decode cJ6_bitCount_0f7a4 32 = .ok (.iand, 1) := by decide +kernel
theorem dJ6_bitCount_0f7a4_33 : decode cJ6_bitCount_0f7a4 33 = .ok (.istore_n 0, 1) := by decide +kernel
theorem dJ6_bitCount_0f7a4_34 : decode cJ6_bitCount_0f7a4 34 = .ok (.iload_n 0, 1) := by decide +kernel
theorem dJ6_bitCount_0f7a4_35 : decode cJ6_bitCount_0f7a4 35 = .ok (.iload_n 0, 1) := by decide +kernel
theorem dJ6_bitCount_0f7a4_36 : decode cJ6_bitCount_0f7a4 36 = .ok (.bipush 8, 2) := by decide +kernel
theorem dJ6_bitCount_0f7a4_38 : decode cJ6_bitCount_0f7a4 38 = .ok (.iushr, 1) := by decide +kernel
theorem dJ6_bitCount_0f7a4_39 : decode cJ6_bitCount_0f7a4 39 = .ok (.iadd, 1) := by decide +kernel
theorem dJ6_bitCount_0f7a4_40 : decode cJ6_bitCount_0f7a4 40 = .ok (.istore_n 0, 1) := by decide +kernel
theorem dJ6_bitCount_0f7a4_41 : decode cJ6_bitCount_0f7a4 41 = .ok (.iload_n 0, 1) := by decide +kernel
theorem dJ6_bitCount_0f7a4_42 : decode cJ6_bitCount_0f7a4 42 = .ok (.iload_n 0, 1) := by decide +kernel
theorem dJ6_bitCount_0f7a4_43 : decode cJ6_bitCount_0f7a4 43 = .ok (.bipush 16, 2) := by decide +kernel
theorem dJ6_bitCount_0f7a4_45 : decode cJ6_bitCount_0f7a4 45 = .ok (.iushr, 1) := by decide +kernel
theorem dJ6_bitCount_0f7a4_46 : decode cJ6_bitCount_0f7a4 46 = .ok (.iadd, 1) := by decide +kernel
theorem dJ6_bitCount_0f7a4_47 : decode cJ6_bitCount_0f7a4 47 = .ok (.istore_n 0, 1) := by decide +kernel
theorem dJ6_bitCount_0f7a4_48 : decode cJ6_bitCount_0f7a4 48 = .ok (.iload_n 0, 1) := by decide +kernel
theorem dJ6_bitCount_0f7a4_49 : decode cJ6_bitCount_0f7a4 49 = .ok (.bipush 63, 2) := by decide +kernel
theorem dJ6_bitCount_0f7a4_51 : decode cJ6_bitCount_0f7a4 51 = .ok (.iand, 1) := by decide +kernel
theorem dJ6_bitCount_0f7a4_52 : decode cJ6_bitCount_0f7a4 52 = .ok (.ireturn, 1) := by decide +kernel
theorem dJ9_abs_0f7a4_0 : decode cJ9_abs_0f7a4 0 = .ok (.iload_n 0, 1) := by decide +kernel
theorem dJ9_abs_0f7a4_1 : decode cJ9_abs_0f7a4 1 = .ok (.ifCond .ge 8, 3) := by decide +kernel
theorem dJ9_abs_0f7a4_4 : decode cJ9_abs_0f7a4 4 = .ok (.iload_n 0, 1) := by decide +kernel
theorem dJ9_abs_0f7a4_5 : decode cJ9_abs_0f7a4 5 = .ok (.ineg, 1) := by decide +kernel
theorem dJ9_abs_0f7a4_6 : decode cJ9_abs_0f7a4 6 = .ok (.goto 4, 3) := by decide +kernel
theorem dJ9_abs_0f7a4_9 : decode cJ9_abs_0f7a4 9 = .ok (.iload_n 0, 1) := by decide +kernel
theorem dJ9_abs_0f7a4_10 : decode cJ9_abs_0f7a4 10 = .ok (.ireturn, 1) := by decide +kernel
theorem dJ9_max_7cf53_0 : decode cJ9_max_7cf53 0 = .ok (.iload_n 0, 1) := by decide +kernel
theorem dJ9_max_7cf53_1 : decode cJ9_max_7cf53 1 = .ok (.iload_n 1, 1) := by decide +kernel
theorem dJ9_max_7cf53_2 : decode cJ9_max_7cf53 2 = .ok (.if_icmp .lt 7, 3) := by decide +kernel
theorem dJ9_max_7cf53_5 : decode cJ9_max_7cf53 5 = .ok (.iload_n 0, 1) := by decide +kernel
theorem dJ9_max_7cf53_6 : decode cJ9_max_7cf53 6 = .ok (.goto 4, 3) := by decide +kernel
theorem dJ9_max_7cf53_9 : decode cJ9_max_7cf53 9 = .ok (.iload_n 1, 1) := by decide +kernel
theorem dJ9_max_7cf53_10 : decode cJ9_max_7cf53 10 = .ok (.ireturn, 1) := by decide +kernel
theorem dJ9_min_7cf53_0 : decode cJ9_min_7cf53 0 = .ok (.iload_n 0, 1) := by decide +kernel
theorem dJ9_min_7cf53_1 : decode cJ9_min_7cf53 1 = .ok (.iload_n 1, 1) := by decide +kernel
theorem dJ9_min_7cf53_2 : decode cJ9_min_7cf53 2 = .ok (.if_icmp .gt 7, 3) := by decide +kernel
theorem dJ9_min_7cf53_5 : decode cJ9_min_7cf53 5 = .ok (.iload_n 0, 1) := by decide +kernel
theorem dJ9_min_7cf53_6 : decode cJ9_min_7cf53 6 = .ok (.goto 4, 3) := by decide +kernel
theorem dJ9_min_7cf53_9 : decode cJ9_min_7cf53 9 = .ok (.iload_n 1, 1) := by decide +kernel
theorem dJ9_min_7cf53_10 : decode cJ9_min_7cf53 10 = .ok (.ireturn, 1) := by decide +kernel
theorem dJxa1e45_init_da8c8_0 : decode cJxa1e45_init_da8c8 0 = .ok (.aload_n 0, 1) := by decide +kernel
theorem dJxa1e45_init_da8c8_1 : decode cJxa1e45_init_da8c8 1 = .ok (.invokespecial 1, 3) := by decide +kernel
theorem dJxa1e45_init_da8c8_4 : decode cJxa1e45_init_da8c8 4 = .ok (.return_, 1) := by decide +kernel
set_option maxRecDepth 20000 in
theorem ggJxc12de_init_da8c8_Jxa1e45_init_da8c8 : GoodIn wsJxc12de_init_da8c8 wsJxa1e45_init_da8c8 := goodIn_r _ [5, 6, 7, 8] (by decide +kernel) (by decide +kernel)
set_option maxRecDepth 20000 in
theorem gJxc12de_init_da8c8_Jxa1e45_init_da8c8 : GoodIn wsJxc12de_init_da8c8 (wsJxa1e45_init_da8c8) := ggJxc12de_init_da8c8_Jxa1e45_init_da8c8
theorem dJxc12de_init_da8c8_0 : decode cJxc12de_init_da8c8 0 = .ok (.aload_n 0, 1) := by decide +kernel
theorem dJxc12de_init_da8c8_1 : decode cJxc12de_init_da8c8 1 = .ok (.invokespecial 1, 3) := by decide +kernel
theorem dJxc12de_init_da8c8_4 : decode cJxc12de_init_da8c8 4 = .ok (.aload_n 0, 1) := by decide +kernel
theorem dJxc12de_init_da8c8_5 : decode cJxc12de_init_da8c8 5 = .ok (.iconst 0, 1) := by decide +kernel
theorem dJxc12de_init_da8c8_6 : decode cJxc12de_init_da8c8 6 = .ok (.putfield 7, 3) := by decide +kernel
theorem dJxc12de_init_da8c8_9 : decode cJxc12de_init_da8c8 9 = .ok (.return_, 1) := by decide +kernel
set_option maxRecDepth 20000 in
theorem ggJx4a65c_init_da8c8_Jxc12de_init_da8c8 : GoodIn wsJx4a65c_init_da8c8 wsJxc12de_init_da8c8 := goodIn_r _ [6, 7, 8, 9, 10, 11, 12, 13, 14, 15, 16, 17] (by decide +kernel) (by decide +kernel)
set_option maxRecDepth 20000 in
theorem gJx4a65c_init_da8c8_Jxc12de_init_da8c8 : GoodIn wsJx4a65c_init_da8c8 (wsJxc12de_init_da8c8) := ggJx4a65c_init_da8c8_Jxc12de_init_da8c8
theorem dJx4a65c_init_da8c8_0 : decode cJx4a65c_init_da8c8 0 = .ok (.aload_n 0, 1) := by decide +kernel
theorem dJx4a65c_init_da8c8_1 : decode cJx4a65c_init_da8c8 1 = .ok (.invokespecial 1, 3) := by decide +kernel
theorem dJx4a65c_init_da8c8_4 : decode cJx4a65c_init_da8c8 4 = .ok (.aload_n 0, 1) := by decide +kernel
theorem dJx4a65c_init_da8c8_5 : decode cJx4a65c_init_da8c8 5 = .ok (.getstatic 39, 3) := by decide +kernel
theorem dJx4a65c_init_da8c8_8 : decode cJx4a65c_init_da8c8 8 = .ok (.putfield 9, 3) := by decide +kernel
theorem dJx4a65c_init_da8c8_11 : decode cJx4a65c_init_da8c8 11 = .ok (.return_, 1) := by decide +kernel
set_option maxRecDepth 20000 in
theorem ggJx4a65c_grow_92f84_J8_newLength_cabcc : GoodIn wsJx4a65c_grow_92f84 wsJ8_newLength_cabcc := goodIn_r _ [11, 12, 4, 5, 6, 13, 14, 15, 10, 16] (by decide +kernel) (by decide +kernel)
set_option maxRecDepth 20000 in
theorem gJx4a65c_grow_92f84_J8_newLength_cabcc : GoodIn wsJx4a65c_grow_92f84 (va_wsS RJx4a65c 73 yJ8_newLength_cabcc wsJ8_newLength_cabcc) := goodIn_app (goodIn_of _ (by decide +kernel)) ggJx4a65c_grow_92f84_J8_newLength_cabcc
set_option maxRecDepth 20000 in
theorem ggJx4a65c_grow_92f84_J7_copyOf_1904c : GoodIn wsJx4a65c_grow_92f84 wsJ7_copyOf_1904c := goodIn_r _ [20, 21, 22, 23, 24, 25, 26, 19, 27, 28, 29, 30, 31, 5, 32, 33, 34, 35, 36] (by decide +kernel) (by decide +kernel)
set_option maxRecDepth 20000 in
theorem gJx4a65c_grow_92f84_J7_copyOf_1904c : GoodIn wsJx4a65c_grow_92f84 (va_wsS RJx4a65c 66 yJ7_copyOf_1904c wsJ7_copyOf_1904c) := goodIn_app (goodIn_of _ (by decide +kernel)) ggJx4a65c_grow_92f84_J7_copyOf_1904c
theorem dJx4a65c_grow_92f84_0 : decode cJx4a65c_grow_92f84 0 = .ok (.aload_n 0, 1) := by decide +kernel
theorem dJx4a65c_grow_92f84_1 : decode cJx4a65c_grow_92f84 1 = .ok (.getfield 9, 3) := by decide +kernel
theorem dJx4a65c_grow_92f84_4 : decode cJx4a65c_grow_92f84 4 = .ok (.arraylength, 1) := by decide +kernel
theorem dJx4a65c_grow_92f84_5 : decode cJx4a65c_grow_92f84 5 = .ok (.istore_n 2, 1) := by decide +kernel
theorem dJx4a65c_grow_92f84_6 : decode cJx4a65c_grow_92f84 6 = .ok (.iload_n 2, 1) := by decide +kernel
theorem dJx4a65c_grow_92f84_7 : decode cJx4a65c_grow_92f84 7 = .ok (.ifCond .gt 13, 3) := by decide +kernel
theorem dJx4a65c_grow_92f84_10 : decode cJx4a65c_grow_92f84 10 = .ok (.aload_n 0, 1) := by decide +kernel
theorem dJx4a65c_grow_92f84_11 : decode cJx4a65c_grow_92f84 11 = .ok (.getfield 9, 3) := by decide +kernel
theorem dJx4a65c_grow_92f84_14 : decode cJx4a65c_grow_92f84 14 = .ok (.getstatic 39, 3) := by decide +kernel
theorem dJx4a65c_grow_92f84_17 : decode cJx4a65c_grow_92f84 17 = .ok (.if_acmp .eq 28, 3) := by decide +kernel
theorem dJx4a65c_grow_92f84_20 : decode cJx4a65c_grow_92f84 20 = .ok (.iload_n 2, 1) := by decide +kernel
theorem dJx4a65c_grow_92f84_21 : decode cJx4a65c_grow_92f84 21 = .ok (.iload_n 1, 1) := by decide +kernel
theorem dJx4a65c_grow_92f84_22 : decode cJx4a65c_grow_92f84 22 = .ok (.iload_n 2, 1) := by decide +kernel
theorem dJx4a65c_grow_92f84_23 : decode cJx4a65c_grow_92f84 23 = .ok (.isub, 1) := by decide +kernel
theorem dJx4a65c_grow_92f84_24 : decode cJx4a65c_grow_92f84 24 = .ok (.iload_n 2, 1) := by decide +kernel
theorem dJx4a65c_grow_92f84_25 : decode cJx4a65c_grow_92f84 25 = .ok (.iconst 1, 1) := by decide +kernel
theorem dJx4a65c_grow_92f84_26 : decode cJx4a65c_grow_92f84 26 = .ok (.ishr, 1) := by decide +kernel
theorem dJx4a65c_grow_92f84_27 : decode cJx4a65c_grow_92f84 27 = .ok (.invokestatic 73, 3) := by decide +kernel
theorem dJx4a65c_grow_92f84_30 : decode cJx4a65c_grow_92f84 30 = .ok (.istore_n 3, 1) := by decide +kernel
theorem dJx4a65c_grow_92f84_31 : decode cJx4a65c_grow_92f84 31 = .ok (.aload_n 0, 1) := by decide +kernel
theorem dJx4a65c_grow_92f84_32 : decode cJx4a65c_grow_92f84 32 = .ok (.aload_n 0, 1) := by decide +kernel
theorem dJx4a65c_grow_92f84_33 : decode cJx4a65c_grow_92f84 33 = .ok (.getfield 9, 3) := by decide +kernel
theorem dJx4a65c_grow_92f84_36 : decode cJx4a65c_grow_92f84 36 = .ok (.iload_n 3, 1) := by decide +kernel
theorem dJx4a65c_grow_92f84_37 : decode cJx4a65c_grow_92f84 37 = .ok (.invokestatic 66, 3) := by decide +kernel
theorem dJx4a65c_grow_92f84_40 : decode cJx4a65c_grow_92f84 40 = .ok (.dup_x1, 1) := by decide +kernel
theorem dJx4a65c_grow_92f84_41 : decode cJx4a65c_grow_92f84 41 = .ok (.putfield 9, 3) := by decide +kernel
theorem dJx4a65c_grow_92f84_44 : decode cJx4a65c_grow_92f84 44 = .ok (.areturn, 1) := by decide +kernel
theorem dJx4a65c_grow_92f84_45 : decode cJx4a65c_grow_92f84 45 = .ok (.aload_n 0, 1) := by decide +kernel
theorem dJx4a65c_grow_92f84_46 : decode cJx4a65c_grow_92f84 46 = .ok (.bipush 10, 2) := by decide +kernel
theorem dJx4a65c_grow_92f84_48 : decode cJx4a65c_grow_92f84 48 = .ok (.iload_n 1, 1) := by decide +kernel
theorem dJx4a65c_grow_92f84_49 : decode cJx4a65c_grow_92f84 49 = .ok (.invokestatic 79, 3) := by decide +kernel
theorem dJx4a65c_grow_92f84_52 : decode cJx4a65c_grow_92f84 52 = .ok (.anewarray 7, 3) := by decide +kernel
theorem dJx4a65c_grow_92f84_55 : decode cJx4a65c_grow_92f84 55 = .ok (.dup_x1, 1) := by decide +kernel
theorem dJx4a65c_grow_92f84_56 : decode cJx4a65c_grow_92f84 56 = .ok (.putfield 9, 3) := by decide +kernel
theorem dJx4a65c_grow_92f84_59 : decode cJx4a65c_grow_92f84 59 = .ok (.areturn, 1) := by decide +kernel
set_option maxRecDepth 20000 in
theorem ggJx4a65c_grow_d5877_Jx4a65c_grow_92f84 : GoodIn wsJx4a65c_grow_d5877 wsJx4a65c_grow_92f84 := goodIn_r _ [6, 7, 8, 9, 10, 11, 12, 13, 14, 15, 16, 17, 18, 19, 20, 21, 22, 23, 24, 25, 26, 27, 28, 29, 30, 31, 32, 33, 34, 35, 36, 37, 38, 39, 40, 41, 42, 43, 44, 45] (by decide +kernel) (by decide +kernel)
set_option maxRecDepth 20000 in
theorem gJx4a65c_grow_d5877_Jx4a65c_grow_92f84 : GoodIn wsJx4a65c_grow_d5877 (wsV RJx4a65c 69 RJx4a65c yJx4a65c_grow_92f84 wsJx4a65c_grow_92f84) := goodIn_app (goodIn_of _ (by decide +kernel)) ggJx4a65c_grow_d5877_Jx4a65c_grow_92f84
theorem dJx4a65c_grow_d5877_0 : decode cJx4a65c_grow_d5877 0 = .ok (.aload_n 0, 1) := by decide +kernel
theorem dJx4a65c_grow_d5877_1 : decode cJx4a65c_grow_d5877 1 = .ok (.aload_n 0, 1) := by decide +kernel
theorem dJx4a65c_grow_d5877_2 : decode cJx4a65c_grow_d5877 2 = .ok (.getfield 48, 3) := by decide +kernel
theorem dJx4a65c_grow_d5877_5 : decode cJx4a65c_grow_d5877 5 = .ok (.iconst 1, 1) := by decide +kernel
theorem dJx4a65c_grow_d5877_6 : decode cJx4a65c_grow_d5877 6 = .ok (.iadd, 1) := by decide +kernel
theorem dJx4a65c_grow_d5877_7 : decode cJx4a65c_grow_d5877 7 = .ok (.invokevirtual 69, 3) := by decide +kernel
theorem dJx4a65c_grow_d5877_10 : decode cJx4a65c_grow_d5877 10 = .ok (.areturn, 1) := by decide +kernel
theorem dJx4a65c_size_8abf5_0 : decode cJx4a65c_size_8abf5 0 = .ok (.aload_n 0, 1) := by decide +kernel
theorem dJx4a65c_size_8abf5_1 : decode cJx4a65c_size_8abf5 1 = .ok (.getfield 48, 3) := by decide +kernel
theorem dJx4a65c_size_8abf5_4 : decode cJx4a65c_size_8abf5 4 = .ok (.ireturn, 1) := by decide +kernel
theorem dJx4a65c_elementData_915e3_0 : decode cJx4a65c_elementData_915e3 0 = .ok (.aload_n 0, 1) := by decide +kernel
theorem dJx4a65c_elementData_915e3_1 : decode cJx4a65c_elementData_915e3 1 = .ok (.getfield 9, 3) := by decide +kernel
theorem dJx4a65c_elementData_915e3_4 : decode cJx4a65c_elementData_915e3 4 = .ok (.iload_n 1, 1) := by decide +kernel
theorem dJx4a65c_elementData_915e3_5 : decode cJx4a65c_elementData_915e3 5 = .ok (.aaload, 1) := by decide +kernel
theorem dJx4a65c_elementData_915e3_6 : decode cJx4a65c_elementData_915e3 6 = .ok (.areturn, 1) := by decide +kernel
set_option maxRecDepth 20000 in
theorem ggJx4a65c_get_915e3_J15_checkIndex_7cf53 : GoodIn wsJx4a65c_get_915e3 wsJ15_checkIndex_7cf53 := goodIn_r _ [5, 6, 7, 8, 9] (by decide +kernel) (by decide +kernel)
set_option maxRecDepth 20000 in
theorem gJx4a65c_get_915e3_J15_checkIndex_7cf53 : GoodIn wsJx4a65c_get_915e3 (va_wsS RJx4a65c 118 yJ15_checkIndex_7cf53 wsJ15_checkIndex_7cf53) := goodIn_app (goodIn_of _ (by decide +kernel)) ggJx4a65c_get_915e3_J15_checkIndex_7cf53
set_option maxRecDepth 20000 in
theorem ggJx4a65c_get_915e3_Jx4a65c_elementData_915e3 : GoodIn wsJx4a65c_get_915e3 wsJx4a65c_elementData_915e3 := goodIn_r _ [14, 15, 16, 17, 18] (by decide +kernel) (by decide +kernel)
set_option maxRecDepth 20000 in
theorem gJx4a65c_get_915e3_Jx4a65c_elementData_915e3 : GoodIn wsJx4a65c_get_915e3 (wsV RJx4a65c 123 RJx4a65c yJx4a65c_elementData_915e3 wsJx4a65c_elementData_915e3) := goodIn_app (goodIn_of _ (by decide +kernel)) ggJx4a65c_get_915e3_Jx4a65c_elementData_915e3
theorem dJx4a65c_get_915e3_0 : decode cJx4a65c_get_915e3 0 = .ok (.iload_n 1, 1) := by decide +kernel
theorem dJx4a65c_get_915e3_1 : decode cJx4a65c_get_915e3 1 = .ok (.aload_n 0, 1) := by decide +kernel
theorem dJx4a65c_get_915e3_2 : decode cJx4a65c_get_915e3 2 = .ok (.getfield 48, 3) := by decide +kernel
theorem dJx4a65c_get_915e3_5 : decode cJx4a65c_get_915e3 5 = .ok (.invokestatic 118, 3) := by decide +kernel
theorem dJx4a65c_get_915e3_8 : decode cJx4a65c_get_915e3 8 = .ok (.pop, 1) := by decide +kernel
theorem dJx4a65c_get_915e3_9 : decode cJx4a65c_get_915e3 9 = .ok (.aload_n 0, 1) := by decide +kernel
theorem dJx4a65c_get_915e3_10 : decode cJx4a65c_get_915e3 10 = .ok (.iload_n 1, 1) := by decide +kernel
theorem dJx4a65c_get_915e3_11 : decode cJx4a65c_get_915e3 11 = .ok (.invokevirtual 123, 3) := by decide +kernel
theorem dJx4a65c_get_915e3_14 : decode cJx4a65c_get_915e3 14 = .ok (.areturn, 1) := by decide +kernel
set_option maxRecDepth 20000 in
theorem ggJx4a65c_add_72be8_Jx4a65c_grow_d5877 : GoodIn wsJx4a65c_add_72be8 wsJx4a65c_grow_d5877 := goodIn_r _ [6, 1, 7, 8, 9, 5, 10, 11, 12, 13, 14, 15, 16, 17, 18, 19, 20, 21, 22, 23, 24, 25, 26, 27, 28, 29, 30, 31, 32, 33, 34, 35, 36, 37, 38, 39, 40, 41, 42, 43, 44, 45, 46, 47, 48, 49] (by decide +kernel) (by decide +kernel)
set_option maxRecDepth 20000 in
theorem gJx4a65c_add_72be8_Jx4a65c_grow_d5877 : GoodIn wsJx4a65c_add_72be8 (wsV RJx4a65c 129 RJx4a65c yJx4a65c_grow_d5877 wsJx4a65c_grow_d5877) := goodIn_app (goodIn_of _ (by decide +kernel)) ggJx4a65c_add_72be8_Jx4a65c_grow_d5877
theorem dJx4a65c_add_72be8_0 : decode cJx4a65c_add_72be8 0 = .ok (.iload_n 3, 1) := by decide +kernel
theorem dJx4a65c_add_72be8_1 : decode cJx4a65c_add_72be8 1 = .ok (.aload_n 2, 1) := by decide +kernel
theorem dJx4a65c_add_72be8_2 : decode cJx4a65c_add_72be8 2 = .ok (.arraylength, 1) := by decide +kernel
theorem dJx4a65c_add_72be8_3 : decode cJx4a65c_add_72be8 3 = .ok (.if_icmp .ne 8, 3) := by decide +kernel
theorem dJx4a65c_add_72be8_6 : decode cJx4a65c_add_72be8 6 = .ok (.aload_n 0, 1) := by decide +kernel
theorem dJx4a65c_add_72be8_7 : decode cJx4a65c_add_72be8 7 = .ok (.invokevirtual 129, 3) := by decide +kernel
theorem dJx4a65c_add_72be8_10 : decode cJx4a65c_add_72be8 10 = .ok (.astore_n 2, 1) := by decide +kernel
theorem dJx4a65c_add_72be8_11 : decode cJx4a65c_add_72be8 11 = .ok (.aload_n 2, 1) := by decide +kernel
theorem dJx4a65c_add_72be8_12 : decode cJx4a65c_add_72be8 12 = .ok (.iload_n 3, 1) := by decide +kernel
theorem dJx4a65c_add_72be8_13 : decode cJx4a65c_add_72be8 13 = .ok (.aload_n 1, 1) := by decide +kernel
theorem dJx4a65c_add_72be8_14 : decode cJx4a65c_add_72be8 14 = .ok (.aastore, 1) := by decide +kernel
theorem dJx4a65c_add_72be8_15 : decode cJx4a65c_add_72be8 15 = .ok (.aload_n 0, 1) := by decide +kernel
theorem dJx4a65c_add_72be8_16 : decode cJx4a65c_add_72be8 16 = .ok (.iload_n 3, 1) := by decide +kernel
theorem dJx4a65c_add_72be8_17 : decode cJx4a65c_add_72be8 17 = .ok (.iconst 1, 1) := by decide +kernel
theorem dJx4a65c_add_72be8_18 : decode cJx4a65c_add_72be8 18 = .ok (.iadd, 1) := by decide +kernel
theorem dJx4a65c_add_72be8_19 : decode cJx4a65c_add_72be8 19 = .ok (.putfield 48, 3) := by decide +kernel
theorem dJx4a65c_add_72be8_22 : decode cJx4a65c_add_72be8 22 = .ok (.return_, 1) := by decide +kernel
set_option maxRecDepth 20000 in
theorem ggJx4a65c_add_9ea2d_Jx4a65c_add_72be8 : GoodIn wsJx4a65c_add_9ea2d wsJx4a65c_add_72be8 := goodIn_r _ [9, 4, 10, 11, 12, 8, 13, 14, 15, 16, 17, 3, 18, 19, 20, 21, 22, 23, 24, 25, 26, 27, 28, 29, 30, 31, 32, 33, 34, 35, 36, 37, 38, 39, 40, 41, 42, 43, 44, 45, 46, 47, 48, 49, 50, 51, 52, 53, 54, 55] (by decide +kernel) (by decide +kernel)
set_option maxRecDepth 20000 in
theorem gJx4a65c_add_9ea2d_Jx4a65c_add_72be8 : GoodIn wsJx4a65c_add_9ea2d (wsV RJx4a65c 131 RJx4a65c yJx4a65c_add_72be8 wsJx4a65c_add_72be8) := goodIn_app (goodIn_of _ (by decide +kernel)) ggJx4a65c_add_9ea2d_Jx4a65c_add_72be8
theorem dJx4a65c_add_9ea2d_0 : decode cJx4a65c_add_9ea2d 0 = .ok (.aload_n 0, 1) := by decide +kernel
theorem dJx4a65c_add_9ea2d_1 : decode cJx4a65c_add_9ea2d 1 = .ok (.dup, 1) := by decide +kernel
theorem dJx4a65c_add_9ea2d_2 : decode cJx4a65c_add_9ea2d 2 = .ok (.getfield 63, 3) := by decide +kernel
theorem dJx4a65c_add_9ea2d_5 : decode cJx4a65c_add_9ea2d 5 = .ok (.iconst 1, 1) := by decide +kernel
theorem dJx4a65c_add_9ea2d_6 : decode cJx4a65c_add_9ea2d 6 = .ok (.iadd, 1) := by decide +kernel
theorem dJx4a65c_add_9ea2d_7 : decode cJx4a65c_add_9ea2d 7 = .ok (.putfield 63, 3) := by decide +kernel
theorem dJx4a65c_add_9ea2d_10 : decode cJx4a65c_add_9ea2d 10 = .ok (.aload_n 0, 1) := by decide +kernel
theorem dJx4a65c_add_9ea2d_11 : decode cJx4a65c_add_9ea2d 11 = .ok (.aload_n 1, 1) := by decide +kernel
theorem dJx4a65c_add_9ea2d_12 : decode cJx4a65c_add_9ea2d 12 = .ok (.aload_n 0, 1) := by decide +kernel
theorem dJx4a65c_add_9ea2d_13 : decode cJx4a65c_add_9ea2d 13 = .ok (.getfield 9, 3) := by decide +kernel
theorem dJx4a65c_add_9ea2d_16 : decode cJx4a65c_add_9ea2d 16 = .ok (.aload_n 0, 1) := by decide +kernel
theorem dJx4a65c_add_9ea2d_17 : decode cJx4a65c_add_9ea2d 17 = .ok (.getfield 48, 3) := by decide +kernel
theorem dJx4a65c_add_9ea2d_20 : decode cJx4a65c_add_9ea2d 20 = .ok (.invokevirtual 131, 3) := by decide +kernel
theorem dJx4a65c_add_9ea2d_23 : decode cJx4a65c_add_9ea2d 23 = .ok (.iconst 1, 1) := by decide +kernel
theorem dJx4a65c_add_9ea2d_24 : decode cJx4a65c_add_9ea2d 24 = .ok (.ireturn, 1) := by decide +kernel
set_option maxRecDepth 20000 in
theorem ggJ7_copyOf_1904c_J7_copyOf_6403c : GoodIn wsJ7_copyOf_1904c wsJ7_copyOf_6403c := goodIn_r _ [8, 9, 10, 11, 12, 13, 14, 15, 16, 17, 18] (by decide +kernel) (by decide +kernel)
set_option maxRecDepth 20000 in
theorem gJ7_copyOf_1904c_J7_copyOf_6403c : GoodIn wsJ7_copyOf_1904c (va_wsS RJ7 300 yJ7_copyOf_6403c wsJ7_copyOf_6403c) := goodIn_app (goodIn_of _ (by decide +kernel)) ggJ7_copyOf_1904c_J7_copyOf_6403c
theorem dJ7_copyOf_1904c_0 : decode cJ7_copyOf_1904c 0 = .ok (.aload_n 0, 1) := by decide +kernel
theorem dJ7_copyOf_1904c_1 : decode cJ7_copyOf_1904c 1 = .ok (.iload_n 1, 1) := by decide +kernel
theorem dJ7_copyOf_1904c_2 : decode cJ7_copyOf_1904c 2 = .ok (.aload_n 0, 1) := by decide +kernel
theorem dJ7_copyOf_1904c_3 : decode cJ7_copyOf_1904c 3 = .ok (.invokevirtual 86, 3) := by decide +kernel
theorem dJ7_copyOf_1904c_6 : decode cJ7_copyOf_1904c 6 = .ok (.invokestatic 300, 3) := by decide +kernel
theorem dJ7_copyOf_1904c_9 : decode cJ7_copyOf_1904c 9 = .ok (.areturn, 1) := by decide +kernel
theorem dJ7_copyOf_6403c_0 : decode cJ7_copyOf_6403c 0 = .ok (.aload_n 2, 1) := by decide +kernel
theorem dJ7_copyOf_6403c_1 : decode cJ7_copyOf_6403c 1 = .ok (.ldc 110, 2) := by decide +kernel
theorem dJ7_copyOf_6403c_3 : decode cJ7_copyOf_6403c 3 = .ok (.if_acmp .ne 10, 3) := by decide +kernel
theorem dJ7_copyOf_6403c_6 : decode cJ7_copyOf_6403c 6 = .ok (.iload_n 1, 1) := by decide +kernel
theorem dJ7_copyOf_6403c_7 : decode cJ7_copyOf_6403c 7 = .ok (.anewarray 2, 3) := by decide +kernel
theorem dJ7_copyOf_6403c_10 : decode cJ7_copyOf_6403c 10 = .ok (.goto 14, 3) := by decide +kernel
theorem dJ7_copyOf_6403c_13 : decode cJ7_copyOf_6403c 13 = .ok (.aload_n 2, 1) := by decide +kernel
theorem dJ7_copyOf_6403c_14 : decode cJ7_copyOf_6403c 14 = .ok (.invokevirtual 90, 3) := by decide +kernel
theorem dJ7_copyOf_6403c_17 : decode cJ7_copyOf_6403c 17 = .ok (.iload_n 1, 1) := by decide +kernel
theorem dJ7_copyOf_6403c_18 : decode cJ7_copyOf_6403c 18 = .ok (.invokestatic 95, 3) := by decide +kernel
theorem dJ7_copyOf_6403c_21 : decode cJ7_copyOf_6403c 21 = .ok (.checkcast 110, 3) := by decide +kernel
theorem dJ7_copyOf_6403c_24 : decode cJ7_copyOf_6403c 24 = .ok (.astore_n 3, 1) := by decide +kernel
theorem dJ7_copyOf_6403c_25 : decode cJ7_copyOf_6403c 25 = .ok (.aload_n 0, 1) := by decide +kernel
theorem dJ7_copyOf_6403c_26 : decode cJ7_copyOf_6403c 26 = .ok (.iconst 0, 1) := by decide +kernel
theorem dJ7_copyOf_6403c_27 : decode cJ7_copyOf_6403c 27 = .ok (.aload_n 3, 1) := by decide +kernel
theorem dJ7_copyOf_6403c_28 : decode cJ7_copyOf_6403c 28 = .ok (.iconst 0, 1) := by decide +kernel
theorem dJ7_copyOf_6403c_29 : decode cJ7_copyOf_6403c 29 = .ok (.aload_n 0, 1) := by decide +kernel
theorem dJ7_copyOf_6403c_30 : decode cJ7_copyOf_6403c 30 = .ok (.arraylength, 1) := by decide +kernel
theorem dJ7_copyOf_6403c_31 : decode cJ7_copyOf_6403c 31 = .ok (.iload_n 1, 1) := by decide +kernel
theorem dJ7_copyOf_6403c_32 : decode cJ7_copyOf_6403c 32 = .ok (.invokestatic 304, 3) := by decide +kernel
theorem dJ7_copyOf_6403c_35 : decode cJ7_copyOf_6403c 35 = .ok (.invokestatic 150, 3) := by decide +kernel
theorem dJ7_copyOf_6403c_38 : decode cJ7_copyOf_6403c 38 = .ok (.aload_n 3, 1) := by decide +kernel
theorem dJ7_copyOf_6403c_39 : decode cJ7_copyOf_6403c 39 = .ok (.areturn, 1) := by decide +kernel
set_option maxRecDepth 20000 in
theorem ggJ15_checkIndex_7cf53_J3_checkIndex_8e157 : GoodIn wsJ15_checkIndex_7cf53 wsJ3_checkIndex_8e157 := goodIn_r _ [4] (by decide +kernel) (by decide +kernel)
set_option maxRecDepth 20000 in
theorem gJ15_checkIndex_7cf53_J3_checkIndex_8e157 : GoodIn wsJ15_checkIndex_7cf53 (va_wsS RJ15 105 yJ3_checkIndex_8e157 wsJ3_checkIndex_8e157) := goodIn_app (goodIn_of _ (by decide +kernel)) ggJ15_checkIndex_7cf53_J3_checkIndex_8e157
theorem dJ15_checkIndex_7cf53_0 : decode cJ15_checkIndex_7cf53 0 = .ok (.iload_n 0, 1) := by decide +kernel
theorem dJ15_checkIndex_7cf53_1 : decode cJ15_checkIndex_7cf53 1 = .ok (.iload_n 1, 1) := by decide +kernel
theorem dJ15_checkIndex_7cf53_2 : decode cJ15_checkIndex_7cf53 2 = .ok (.aconst_null, 1) := by decide +kernel
theorem dJ15_checkIndex_7cf53_3 : decode cJ15_checkIndex_7cf53 3 = .ok (.invokestatic 105, 3) := by decide +kernel
theorem dJ15_checkIndex_7cf53_6 : decode cJ15_checkIndex_7cf53 6 = .ok (.ireturn, 1) := by decide +kernel
set_option maxRecDepth 20000 in
theorem ggJ8_newLength_cabcc_J8_hugeLength_7cf53 : GoodIn wsJ8_newLength_cabcc wsJ8_hugeLength_7cf53 := goodIn_r _ [9, 5] (by decide +kernel) (by decide +kernel)
set_option maxRecDepth 20000 in
theorem gJ8_newLength_cabcc_J8_hugeLength_7cf53 : GoodIn wsJ8_newLength_cabcc (va_wsS RJ8 201 yJ8_hugeLength_7cf53 wsJ8_hugeLength_7cf53) := goodIn_app (goodIn_of _ (by decide +kernel)) ggJ8_newLength_cabcc_J8_hugeLength_7cf53
theorem dJ8_newLength_cabcc_0 : decode cJ8_newLength_cabcc 0 = .ok (.iload_n 0, 1) := by decide +kernel
theorem dJ8_newLength_cabcc_1 : decode cJ8_newLength_cabcc 1 = .ok (.iload_n 1, 1) := by decide +kernel
theorem dJ8_newLength_cabcc_2 : decode cJ8_newLength_cabcc 2 = .ok (.iload_n 2, 1) := by decide +kernel
theorem dJ8_newLength_cabcc_3 : decode cJ8_newLength_cabcc 3 = .ok (.invokestatic 194, 3) := by decide +kernel
theorem dJ8_newLength_cabcc_6 : decode cJ8_newLength_cabcc 6 = .ok (.iadd, 1) := by decide +kernel
theorem dJ8_newLength_cabcc_7 : decode cJ8_newLength_cabcc 7 = .ok (.istore_n 3, 1) := by decide +kernel
theorem dJ8_newLength_cabcc_8 : decode cJ8_newLength_cabcc 8 = .ok (.iconst 0, 1) := by decide +kernel
theorem dJ8_newLength_cabcc_9 : decode cJ8_newLength_cabcc 9 = .ok (.iload_n 3, 1) := by decide +kernel
theorem dJ8_newLength_cabcc_10 : decode cJ8_newLength_cabcc 10 = .ok (.if_icmp .ge 11, 3) := by decide +kernel
theorem dJ8_newLength_cabcc_13 : decode cJ8_newLength_cabcc 13 = .ok (.iload_n 3, 1) := by decide +kernel
theorem dJ8_newLength_cabcc_14 : decode cJ8_newLength_cabcc 14 = .ok (.ldc 200, 2) := by decide +kernel
theorem dJ8_newLength_cabcc_16 : decode cJ8_newLength_cabcc 16 = .ok (.if_icmp .gt 5, 3) := by decide +kernel
theorem dJ8_newLength_cabcc_19 : decode cJ8_newLength_cabcc 19 = .ok (.iload_n 3, 1) := by decide +kernel
theorem dJ8_newLength_cabcc_20 : decode cJ8_newLength_cabcc 20 = .ok (.ireturn, 1) := by decide +kernel
theorem dJ8_newLength_cabcc_21 : decode cJ8_newLength_cabcc 21 = .ok (.iload_n 0, 1) := by decide +kernel
theorem dJ8_newLength_cabcc_22 : decode cJ8_newLength_cabcc 22 = .ok (.iload_n 1, 1) := by decide +kernel
theorem dJ8_newLength_cabcc_23 : decode cJ8_newLength_cabcc 23 = .ok (.invokestatic 201, 3) := by decide +kernel
theorem dJ8_newLength_cabcc_26 : decode cJ8_newLength_cabcc 26 = .ok (.ireturn, 1) := by decide +kernel
theorem dJ8_hugeLength_7cf53_0 : decode cJ8_hugeLength_7cf53 0 = .ok (.iload_n 0, 1) := by decide +kernel
theorem dJ8_hugeLength_7cf53_1 : decode cJ8_hugeLength_7cf53 1 = .ok (.iload_n 1, 1) := by decide +kernel
theorem dJ8_hugeLength_7cf53_2 : decode cJ8_hugeLength_7cf53 2 = .ok (.iadd, 1) := by decide +kernel
theorem dJ8_hugeLength_7cf53_3 : decode cJ8_hugeLength_7cf53 3 = .ok (.istore_n 2, 1) := by decide +kernel
theorem dJ8_hugeLength_7cf53_4 : decode cJ8_hugeLength_7cf53 4 = .ok (.iload_n 2, 1) := by decide +kernel
theorem dJ8_hugeLength_7cf53_5 : decode cJ8_hugeLength_7cf53 5 = .ok (.ifCond .ge 44, 3) := by decide +kernel
theorem dJ8_hugeLength_7cf53_8 : decode cJ8_hugeLength_7cf53 8 = .ok (.new 204, 3) := by decide +kernel
theorem dJ8_hugeLength_7cf53_11 : decode cJ8_hugeLength_7cf53 11 = .ok (.dup, 1) := by decide +kernel
theorem dJ8_hugeLength_7cf53_12 : decode cJ8_hugeLength_7cf53 12 = .ok (.new 89, 3) := by decide +kernel
theorem dJ8_hugeLength_7cf53_15 : decode cJ8_hugeLength_7cf53 15 = .ok (.dup, 1) := by decide +kernel
theorem dJ8_hugeLength_7cf53_16 : decode cJ8_hugeLength_7cf53 16 = .ok (.invokespecial 91, 3) := by decide +kernel
theorem dJ8_hugeLength_7cf53_19 : decode cJ8_hugeLength_7cf53 19 = .ok (.ldc 206, 2) := by decide +kernel
theorem dJ8_hugeLength_7cf53_21 : decode cJ8_hugeLength_7cf53 21 = .ok (.invokevirtual 94, 3) := by decide +kernel
theorem dJ8_hugeLength_7cf53_24 : decode cJ8_hugeLength_7cf53 24 = .ok (.iload_n 0, 1) := by decide +kernel
theorem dJ8_hugeLength_7cf53_25 : decode cJ8_hugeLength_7cf53 25 = .ok (.invokevirtual 98, 3) := by decide +kernel
theorem dJ8_hugeLength_7cf53_28 : decode cJ8_hugeLength_7cf53 28 = .ok (.ldc 208, 2) := by decide +kernel
theorem dJ8_hugeLength_7cf53_30 : decode cJ8_hugeLength_7cf53 30 = .ok (.invokevirtual 94, 3) := by decide +kernel
theorem dJ8_hugeLength_7cf53_33 : decode cJ8_hugeLength_7cf53 33 = .ok (.iload_n 1, 1) := by decide +kernel
theorem dJ8_hugeLength_7cf53_34 : decode cJ8_hugeLength_7cf53 34 = .ok (.invokevirtual 98, 3) := by decide +kernel
theorem dJ8_hugeLength_7cf53_37 : decode cJ8_hugeLength_7cf53 37 = .ok (.ldc 210, 2) := by decide +kernel
theorem dJ8_hugeLength_7cf53_39 : decode cJ8_hugeLength_7cf53 39 = .ok (.invokevirtual 94, 3) := by decide +kernel
theorem dJ8_hugeLength_7cf53_42 : decode cJ8_hugeLength_7cf53 42 = .ok (.invokevirtual 101, 3) := by decide +kernel
theorem dJ8_hugeLength_7cf53_45 : decode cJ8_hugeLength_7cf53 45 = .ok (.invokespecial 212, 3) := by decide +kernel
theorem dJ8_hugeLength_7cf53_48 : decode cJ8_hugeLength_7cf53 48 = .ok (.athrow, 1) := by decide +kernel
theorem dJ8_hugeLength_7cf53_49 : decode cJ8_hugeLength_7cf53 49 = .ok (.iload_n 2, 1) := by decide +kernel
theorem dJ8_hugeLength_7cf53_50 : decode cJ8_hugeLength_7cf53 50 = .ok (.ldc 200, 2) := by decide +kernel
theorem dJ8_hugeLength_7cf53_52 : decode cJ8_hugeLength_7cf53 52 = .ok (.if_icmp .gt 6, 3) := by decide +kernel
theorem dJ8_hugeLength_7cf53_55 : decode cJ8_hugeLength_7cf53 55 = .ok (.ldc 200, 2) := by decide +kernel
theorem dJ8_hugeLength_7cf53_57 : decode cJ8_hugeLength_7cf53 57 = .ok (.ireturn, 1) := by decide +kernel
theorem dJ8_hugeLength_7cf53_58 : decode cJ8_hugeLength_7cf53 58 = .ok (.iload_n 2, 1) := by decide +kernel
theorem dJ8_hugeLength_7cf53_59 : decode cJ8_hugeLength_7cf53 59 = .ok (.ireturn, 1) := by decide +kernel
theorem dJ3_checkIndex_8e157_0 : decode cJ3_checkIndex_8e157 0 = .ok (.iload_n 0, 1) := by decide +kernel
theorem dJ3_checkIndex_8e157_1 : decode cJ3_checkIndex_8e157 1 = .ok (.ifCond .lt 8, 3) := by decide +kernel
theorem dJ3_checkIndex_8e157_4 : decode cJ3_checkIndex_8e157 4 = .ok (.iload_n 0, 1) := by decide +kernel
theorem dJ3_checkIndex_8e157_5 : decode cJ3_checkIndex_8e157 5 = .ok (.iload_n 1, 1) := by decide +kernel
theorem dJ3_checkIndex_8e157_6 : decode cJ3_checkIndex_8e157 6 = .ok (.if_icmp .lt 10, 3) := by decide +kernel
theorem dJ3_checkIndex_8e157_9 : decode cJ3_checkIndex_8e157 9 = .ok (.aload_n 2, 1) := by decide +kernel
theorem dJ3_checkIndex_8e157_10 : decode cJ3_checkIndex_8e157 10 = .ok (.iload_n 0, 1) := by decide +kernel
theorem dJ3_checkIndex_8e157_11 : decode cJ3_checkIndex_8e157 11 = .ok (.iload_n 1, 1) := by decide +kernel
theorem dJ3_checkIndex_8e157_12 : decode cJ3_checkIndex_8e157 12 = .ok (.invokestatic 95, 3) := by decide +kernel
theorem dJ3_checkIndex_8e157_15 : decode cJ3_checkIndex_8e157 15 = .ok (.athrow, 1) := by decide +kernel
theorem dJ3_checkIndex_8e157_16 : decode cJ3_checkIndex_8e157 16 = .ok (.iload_n 0, 1) := by decide +kernel
theorem dJ3_checkIndex_8e157_17 : decode cJ3_checkIndex_8e157 17 = .ok (.ireturn, 1) := by decide +kernel
end
section
/-! THE WORLD AS A MAP: an address, what lies there. G: the numbers of the classes, of the slots, of the array classes. -/
abbrev XG : Type := va_G × (Nat → ClassId)
abbrev XW : Type := Nat → Option va_E
def xt (G : XG) : List (ClassId × FieldType) := [(G.2 0, .int), (G.2 1, .boolean), (G.2 2, .byte), (G.2 3, .object "ResinWoods$Wood"), (G.2 4, .object "java/lang/Object"), (G.2 5, .array .int)]
def xK (G : XG) (U : State) : Prop := va_K G.1 vwCl (xt G) U
def xM (G : XG) (A : Nat → Prop) (w : XW) (H : Heap) : Prop := ∃ ws : va_W, va_P G.1 vwCl ws H ∧ va_D A ws ∧ ∀ (a : Nat) (e : va_E), (∃ k : Nat, ws[k]? = some (a, e)) ↔ w a = some e
def xH (G : XG) (A : Nat → Prop) (H0 H : Heap) (locs : List Loc) (w : XW) : Prop := (∀ q, H0.size ≤ q → A q) ∧ va_S A H0 H locs ∧ xM G A w H
/-- what stays at all times: static rows that nobody writes (10, 11, 12 of G), links between nest mates, the lists' interface -/
def strV (j : Nat) : Int32 := match j with
  | 0 => 6 | 1 => 5 | 2 => 4 | 3 => 3 | 4 => 2 | _ => 1
def rosV (j : Nat) : Int32 := match j with
  | 0 => 70 | 1 => 65 | 2 => 60 | _ => 55
def xSt (G : XG) (A : Nat → Prop) (U : State) (H : Heap) : Prop := va_Z "ResinWoods" "STRENGTH" "[I" (.ref (G.2 10)) A U H ∧ va_T .int (G.2 10) 10 (fun j => .int (strV j)) A U H ∧ va_Z "ResinWoods" "ROSIN_PARTS" "[I" (.ref (G.2 11)) A U H ∧ va_T .int (G.2 11) 4 (fun j => .int (rosV j)) A U H ∧ va_Z "java/util/ArrayList" "DEFAULTCAPACITY_EMPTY_ELEMENTDATA" "[Ljava/lang/Object;" (.ref (G.2 12)) A U H ∧ va_T (.object "java/lang/Object") (G.2 12) 0 (fun _ => .null) A U H
def xNs (U : State) : Prop := va_Nw (.fieldLinkNest RX1 54 RX6 "STRENGTH" "[I" RX6) U ∧ va_Nw (.fieldLinkNest RX0 58 RX6 "ROSIN_PARTS" "[I" RX6) U ∧ va_Nw (.methodLinkNest RX6 294 yX2_visit RX6) U ∧ va_Nw (.methodLinkNest RX6 34 yX3_init RX6) U ∧ va_Nw (.methodLinkNest RX6 41 yX2_init RX6) U ∧ va_Nw (.methodLinkNest RX1 57 yX6_yearOf RX6) U ∧ va_Nw (.methodLinkNest RX2 39 yX1_init RX6) U ∧ va_Nw (.methodLinkNest RX2 46 yX3_init RX6) U ∧ va_Nw (.methodLinkNest RX4 51 yX1_init RX6) U ∧ va_Nw (.methodLinkNest RX4 52 yX6_yearOf RX6) U
/-- the class of rows of rows of ints is there -/
def xAA (U : State) : Prop := ∃ (q cA : ClassId) (k : Class), U.vm.findClass (FieldType.array .int).toString = some q ∧ U.vm.classes[cA]? = some k ∧ k.kind = .array q (.array .int) ∧ U.vm.findClass ("[" ++ (FieldType.array .int).toString) = some cA
theorem xAA_to {u U : State} (hvm : u.vm.Alike U.vm) (h : xAA u) : xAA U := by
  obtain ⟨q, cA, k, h1, h2, h3, h4⟩ := h
  obtain ⟨k1, g1, g2⟩ := hvm.2.2 _ _ h2
  exact ⟨q, cA, k1, by rw [hvm.findClass]; exact h1, g1, by rw [g2]; exact h3, by rw [hvm.findClass]; exact h4⟩
theorem xAA_of {ar : Array Value} {U : State} (h : (Cond.arrayOver (.array .int)).before ar U = true) : xAA U := by
  simp only [Cond.before, Cond.holds, Cond.value, beq_iff_eq] at h
  obtain ⟨q, hq, h⟩ := Option.bind_eq_some_iff.mp h
  obtain ⟨cA, hi, h⟩ := Option.bind_eq_some_iff.mp h
  obtain ⟨k, hk, h⟩ := Option.map_eq_some_iff.mp h
  have hp := (Array.findIdx?_eq_some_iff_getElem.mp hi).2.1
  rw [(Array.getElem?_eq_some_iff.mp hk).2] at hp
  revert h hp
  cases hkind : k.kind with
  | array q1 ty =>
    intro h hp
    simp only [beq_iff_eq, Bool.and_eq_true, decide_eq_true_eq] at h hp
    exact ⟨q, cA, k, hq, hk, by rw [hkind, hp, h.1], h.2⟩
  | _ =>
    intro h hp
    simp at h
def xLs (G : XG) (U : State) : Prop := va_Fw RJx4a65c ⟨"java/util/List", "size", "()I"⟩ yJx4a65c_size_8abf5 U ∧ va_Fw RJx4a65c ⟨"java/util/List", "get", "(I)Ljava/lang/Object;"⟩ yJx4a65c_get_915e3 U ∧ va_Fw RJx4a65c ⟨"java/util/List", "add", "(Ljava/lang/Object;)Z"⟩ yJx4a65c_add_9ea2d U ∧ va_AO "java/lang/Object" U ∧ va_AO "ResinWoods$Wood" U ∧ va_Mi "[Ljava/lang/Object;" (G.2 13) U ∧ va_Dc U ∧ va_Nw (.castable RX4 "java/lang/Object") U ∧ va_Nw (.castable RX1 "java/lang/Object") U ∧ va_Nw (.castable RX0 "java/lang/Object") U ∧ xAA U
theorem xCn {C D : String} {u U : State} (hvm : u.vm.Alike U.vm) (h : va_Nw (.castable C D) u) : va_Nw (.castable C D) U := by
  have e := Cond.onTables_vm (A := #[]) (A' := #[]) (U := u) (U' := U) U.vm (Cond.castable C D) rfl
  have hU : U.setVm U.vm = U := rfl
  rw [hU] at e
  unfold va_Nw at h ⊢
  rw [← e, Cond.castable_setVm hvm]
  exact h
def xT (G : XG) (A : Nat → Prop) (U : State) : Prop := xSt G A U U.heap ∧ xNs U ∧ xLs G U
theorem xSt_to {G : XG} {A : Nat → Prop} {u U : State} {H0 H : Heap} {locs : List Loc} (h : xSt G A u H0) (hvm : u.vm.Alike U.vm) (hS : va_S A H0 H locs) : xSt G A U H := by
  obtain ⟨h1, h2, h3, h4, h5, h6⟩ := h
  have hq : ∀ a : Nat, a < H0.size → ¬ A a → H[a]? = H0[a]? := fun a x y => hS.2.1 a x y
  exact ⟨(h1.moved hvm).kept hq, (h2.moved hvm).kept hq, (h3.moved hvm).kept hq, (h4.moved hvm).kept hq, (h5.moved hvm).kept hq, (h6.moved hvm).kept hq⟩
theorem xNs_to {u U : State} (h : xNs u) (hW : u.WarmedH U.vm) : xNs U := by
  obtain ⟨h1, h2, h3, h4, h5, h6, h7, h8, h9, h10⟩ := h
  exact ⟨h1.warmF hW, h2.warmF hW, h3.warmM hW, h4.warmM hW, h5.warmM hW, h6.warmM hW, h7.warmM hW, h8.warmM hW, h9.warmM hW, h10.warmM hW⟩
theorem xNs_same {u U : State} (h : xNs u) (hv : u.vm = U.vm) : xNs U := by
  obtain ⟨h1, h2, h3, h4, h5, h6, h7, h8, h9, h10⟩ := h
  exact ⟨h1.same rfl hv, h2.same rfl hv, h3.same rfl hv, h4.same rfl hv, h5.same rfl hv, h6.same rfl hv, h7.same rfl hv, h8.same rfl hv, h9.same rfl hv, h10.same rfl hv⟩
theorem xLs_to {G : XG} {u U : State} (h : xLs G u) (hvm : u.vm.Alike U.vm) : xLs G U := by
  obtain ⟨h1, h2, h3, h4, h5, h6, h7, h8, h9, h10, h11⟩ := h
  exact ⟨h1.moved (by decide) hvm, h2.moved (by decide) hvm, h3.moved (by decide) hvm, h4.moved hvm, h5.moved hvm, h6.moved hvm, h7.moved hvm, xCn hvm h8, xCn hvm h9, xCn hvm h10, xAA_to hvm h11⟩
def xP (G : XG) (A : Nat → Prop) (w : XW) (U : State) : Prop := xK G U ∧ xH G A U.heap U.heap [] w ∧ xT G A U
def xB (G : XG) (A : Nat → Prop) (w : XW) (t : State) : Prop := xK G t ∧ xM G A w t.heap
theorem xM_set {G : XG} {A : Nat → Prop} {w : XW} {ws : va_W} {H1 : Heap} {k a : Nat} {e0 e1 : va_E} (hD0 : va_D A ws) (hm : ∀ (a : Nat) (e : va_E), (∃ k : Nat, ws[k]? = some (a, e)) ↔ w a = some e) (hk : ws[k]? = some (a, e0))
    (hP : va_P G.1 vwCl (ws.set k (a, e1)) H1) (hD : va_D A (ws.set k (a, e1))) : xM G A (va_up w a (some e1)) H1 := by
  refine ⟨_, hP, hD, fun b x => ?_⟩
  have hl := (List.getElem?_eq_some_iff.mp hk).1
  have hs : (ws.set k (a, e1))[k]? = some (a, e1) := List.getElem?_set_self hl
  by_cases hb : b = a
  · subst hb
    rw [show va_up w b (some e1) b = some e1 from if_pos rfl]
    constructor
    · rintro ⟨j, hj⟩
      have hjk := hD.1 j k (b, x) (b, e1) hj hs rfl
      subst hjk
      rw [hs] at hj
      cases hj
      rfl
    · intro h
      cases h
      exact ⟨k, hs⟩
  · rw [show va_up w a (some e1) b = w b from if_neg hb, ← hm b x]
    constructor
    · rintro ⟨j, hj⟩
      by_cases hjk : j = k
      · subst hjk
        rw [hs] at hj
        cases hj
        exact absurd rfl hb
      · rw [List.getElem?_set_ne (Ne.symm hjk)] at hj
        exact ⟨j, hj⟩
    · rintro ⟨j, hj⟩
      have hjk : j ≠ k := by
        rintro rfl
        rw [hk] at hj
        cases hj
        exact hb rfl
      exact ⟨j, by rw [List.getElem?_set_ne (Ne.symm hjk)]; exact hj⟩
theorem xM_push {G : XG} {A : Nat → Prop} {w : XW} {ws : va_W} {H1 : Heap} {q : Nat} {e1 : va_E} (hm : ∀ (a : Nat) (e : va_E), (∃ k : Nat, ws[k]? = some (a, e)) ↔ w a = some e)
    (hP : va_P G.1 vwCl (ws ++ [(q, e1)]) H1) (hD : va_D A (ws ++ [(q, e1)])) : xM G A (va_up w q (some e1)) H1 ∧ w q = none := by
  have hs : (ws ++ [(q, e1)])[ws.length]? = some (q, e1) := by simp
  have hin : ∀ (j : Nat) (x : Nat × va_E), ws[j]? = some x → (ws ++ [(q, e1)])[j]? = some x := fun j x hj => by
    rw [List.getElem?_append_left (List.getElem?_eq_some_iff.mp hj).1]; exact hj
  have hno : ∀ (j : Nat) (x : va_E), ¬ ws[j]? = some (q, x) := fun j x hj => by
    have := hD.1 j ws.length _ _ (hin j _ hj) hs rfl
    have := (List.getElem?_eq_some_iff.mp hj).1
    omega
  refine ⟨⟨_, hP, hD, fun b x => ?_⟩, ?_⟩
  · by_cases hb : b = q
    · subst hb
      rw [show va_up w b (some e1) b = some e1 from if_pos rfl]
      constructor
      · rintro ⟨j, hj⟩
        have hjk := hD.1 j ws.length (b, x) (b, e1) hj hs rfl
        subst hjk
        rw [hs] at hj
        cases hj
        rfl
      · intro h
        cases h
        exact ⟨_, hs⟩
    · rw [show va_up w q (some e1) b = w b from if_neg hb, ← hm b x]
      constructor
      · rintro ⟨j, hj⟩
        by_cases hl : j < ws.length
        · rw [List.getElem?_append_left hl] at hj
          exact ⟨j, hj⟩
        · rw [List.getElem?_append_right (by omega)] at hj
          have hz : j - ws.length < 1 := (List.getElem?_eq_some_iff.mp hj).1
          rw [show j - ws.length = 0 by omega] at hj
          cases hj
          exact absurd rfl hb
      · rintro ⟨j, hj⟩
        exact ⟨j, hin j _ hj⟩
  · cases hw : w q with
    | none => rfl
    | some x =>
      obtain ⟨j, hj⟩ := (hm q x).mpr hw
      exact absurd hj (hno j x)
/-- fewer cells -/
theorem xM_sub {G : XG} {A : Nat → Prop} {w w' : XW} {H : Heap} (h : xM G A w H) (hs : ∀ a e, w' a = some e → w a = some e) : xM G A w' H := by
  obtain ⟨ws, hP, hD, hm⟩ := h
  have key : ∀ (l : va_W) (n : Nat), (∀ (k : Nat) (q : Nat × va_E), l[k]? = some q → ws[n + k]? = some q) → ∃ ws' : va_W, (∀ q ∈ ws', q ∈ ws) ∧ (∀ (i j : Nat) (p q : Nat × va_E), ws'[i]? = some p → ws'[j]? = some q → p.1 = q.1 → i = j) ∧ ∀ q : Nat × va_E, q ∈ ws' ↔ (q ∈ l ∧ w' q.1 = some q.2) := by
    intro l
    induction l with
    | nil => intro n _; exact ⟨[], fun q h => by simp at h, fun i j p q h => by simp at h, fun q => by simp⟩
    | cons x l ih =>
      intro n hn
      obtain ⟨w2, h1, h2, h3⟩ := ih (n + 1) (fun k q hk => by have := hn (k + 1) q (by simpa using hk); rw [show n + 1 + k = n + (k + 1) by omega]; exact this)
      by_cases hx : w' x.1 = some x.2
      · refine ⟨x :: w2, ?_, ?_, ?_⟩
        · intro q hq
          rcases List.mem_cons.mp hq with rfl | hq
          · exact List.mem_of_getElem? (hn 0 _ rfl)
          · exact h1 q hq
        · have hxn : ∀ (j : Nat) (q : Nat × va_E), w2[j]? = some q → x.1 ≠ q.1 := by
            intro j q hj he
            have hq := (h3 q).mp (List.mem_of_getElem? hj)
            obtain ⟨k, hk⟩ := List.getElem?_of_mem hq.1
            have e := hD.1 (n + 0) (n + (k + 1)) x q (hn 0 _ rfl) (hn (k + 1) q (by simpa using hk)) he
            omega
          intro i j p q hi hj he
          match i, j with
          | 0, 0 => rfl
          | 0, j + 1 =>
            have e0 : x = p := by simpa using hi
            exact absurd (by rw [e0]; exact he) (hxn j q (by simpa using hj))
          | i + 1, 0 =>
            have e0 : x = q := by simpa using hj
            exact absurd (by rw [e0]; exact he.symm) (hxn i p (by simpa using hi))
          | i + 1, j + 1 =>
            have := h2 i j p q (by simpa using hi) (by simpa using hj) he
            omega
        · intro q
          rw [List.mem_cons, List.mem_cons, h3]
          constructor
          · rintro (rfl | ⟨a1, a2⟩)
            · exact ⟨Or.inl rfl, hx⟩
            · exact ⟨Or.inr a1, a2⟩
          · rintro ⟨rfl | a1, a2⟩
            · exact Or.inl rfl
            · exact Or.inr ⟨a1, a2⟩
      · refine ⟨w2, h1, h2, fun q => ?_⟩
        rw [h3, List.mem_cons]
        constructor
        · rintro ⟨a1, a2⟩
          exact ⟨Or.inr a1, a2⟩
        · rintro ⟨rfl | a1, a2⟩
          · exact absurd a2 hx
          · exact ⟨a1, a2⟩
  obtain ⟨ws', h1, h2, h3⟩ := key ws 0 (fun k q h => by rw [Nat.zero_add]; exact h)
  refine ⟨ws', fun k q hk => ?_, ⟨h2, fun k q hk => ?_⟩, fun a e => ?_⟩
  · obtain ⟨j, hj⟩ := List.getElem?_of_mem (h1 q (List.mem_of_getElem? hk))
    exact hP j q hj
  · obtain ⟨j, hj⟩ := List.getElem?_of_mem (h1 q (List.mem_of_getElem? hk))
    exact hD.2 j q hj
  · constructor
    · rintro ⟨k, hk⟩
      exact ((h3 (a, e)).mp (List.mem_of_getElem? hk)).2
    · intro hw
      obtain ⟨j, hj⟩ := (hm a e).mpr (hs a e hw)
      exact List.getElem?_of_mem ((h3 (a, e)).mpr ⟨List.mem_of_getElem? hj, hw⟩)
theorem xH_sub {G : XG} {A : Nat → Prop} {w w' : XW} {H0 H : Heap} {locs : List Loc} (h : xH G A H0 H locs w) (hs : ∀ a e, w' a = some e → w a = some e) : xH G A H0 H locs w' := ⟨h.1, h.2.1, xM_sub h.2.2 hs⟩
theorem xH_of {G : XG} {A : Nat → Prop} {H0 H : Heap} {locs : List Loc} {w w' : XW} (h : xH G A H0 H locs w) (e : w = w') : xH G A H0 H locs w' := e ▸ h
section XR
variable {p : Program} {l : Launch} {e : Env} {R : Room} {s : State} {m : MethodId} {args : Array Value} {below : List Frame} {meth : Method} {c : Code} {H : Heap} {locs : List Loc} {cells slots : Nat} {Q : State → Prop}
variable {cc : ByteArray} {pc : Nat} {ls : Array Slot} {rest : List Value} {G : XG} {A : Nat → Prop} {a : Nat} {w : XW} {H0 : Heap}
theorem x_get (hexec : p.tables.exec = Jvm.exec) (hb : c.code = cc) {own ref C : String} {T : u_T} {N ci index : Nat} {Ts : List Cond} (hts : ∀ w ∈ Ts, w.before args s = true) (hin : ∀ w ∈ u_ws C T N, w ∈ Ts) (hown : s.vm.findClass own = some m.cls) (hK : xK G s) (hH : xH G A H0 H locs w) {fs : List Value} (he : w a = some (.inr (ci, fs))) (hc : vwCl[ci]? = some (C, T, N)) (k : Nat) (hk : k < N) (hlink : (Cond.fieldLink own index ref (T k).2.1 (T k).2.2.1).before args s = true) (hsame : ∀ x, s.fieldFound? (T k).1 (T k).2.1 (T k).2.2.1 = some x → s.fieldFound? ref (T k).2.1 (T k).2.2.1 = some x) {v : Value} (hv : fs[k]? = some v) (hdg : decode cc pc = .ok (.getfield index, 3))
    (kk : W p l e R s m args below meth c H locs cells slots Q (F0 m (pc + 3) ls (v :: rest))) : W p l e R s m args below meth c H locs cells slots Q (F0 m pc ls (.ref a :: rest)) := by
  obtain ⟨hA, hS, ws, hP, hD, hm⟩ := hH
  obtain ⟨q0, hq⟩ := (hm _ _).mpr he
  exact va_get hexec hb hts hin hown hK hP q0 hq hc k hk hlink hsame hv hdg kk
theorem x_put (hexec : p.tables.exec = Jvm.exec) (hb : c.code = cc) {own ref C : String} {T : u_T} {N ci index : Nat} {Ts : List Cond} (hts : ∀ w ∈ Ts, w.before args s = true) (hin : ∀ w ∈ u_ws C T N, w ∈ Ts) (ty0 : Nat → FieldType) (hty : ∀ k, k < N → parseFieldDescriptor (T k).2.2.1 = some (ty0 k)) (hnm : ∀ a, a < N → ∀ b, b < N → a ≠ b → (T a).2.1 ≠ (T b).2.1) (hown : s.vm.findClass own = some m.cls) (hK : xK G s) (hH : xH G A H0 H locs w) {fs : List Value} (he : w a = some (.inr (ci, fs))) (hc : vwCl[ci]? = some (C, T, N)) (k : Nat) (hk : k < N) (hlink : (Cond.fieldLink own index ref (T k).2.1 (T k).2.2.1).before args s = true) (hsame : ∀ x, s.fieldFound? (T k).1 (T k).2.1 (T k).2.2.1 = some x → s.fieldFound? ref (T k).2.1 (T k).2.2.1 = some x) (hfin : (T k).2.2.2 = false) {ty : FieldType} {v : Value} (hd : parseFieldDescriptor (T k).2.2.1 = some ty) (hn : narrow ty v = v) (hfit : fits ty v = true) (hl : k < fs.length)
    (hdg : decode cc pc = .ok (.putfield index, 3)) (kk : ∀ (H1 : Heap) (locs1 : List Loc), xH G A H0 H1 locs1 (va_up w a (some (.inr (ci, fs.set k v)))) → W p l e R s m args below meth c H1 locs1 cells slots Q (F0 m (pc + 3) ls rest)) : W p l e R s m args below meth c H locs cells slots Q (F0 m pc ls (v :: .ref a :: rest)) := by
  obtain ⟨hA, hS, ws, hP, hD, hm⟩ := hH
  obtain ⟨q0, hq⟩ := (hm _ _).mpr he
  exact va_put hexec hb hts hin ty0 hty hnm hown hK hP hD hS q0 hq hc k hk hlink hsame hfin hd hn hfit hl hdg (fun H1 locs1 hP1 hD1 hS1 => kk H1 locs1 ⟨hA, hS1, xM_set hD hm hq hP1 hD1⟩)
theorem x_putF (hexec : p.tables.exec = Jvm.exec) (hb : c.code = cc) {own ref C : String} {T : u_T} {N ci index : Nat} {Ts : List Cond} (hts : ∀ w ∈ Ts, w.before args s = true) (hin : ∀ w ∈ u_ws C T N, w ∈ Ts) (ty0 : Nat → FieldType) (hty : ∀ k, k < N → parseFieldDescriptor (T k).2.2.1 = some (ty0 k)) (hnm : ∀ a, a < N → ∀ b, b < N → a ≠ b → (T a).2.1 ≠ (T b).2.1) (hown : s.vm.findClass own = some m.cls) (hK : xK G s) (hH : xH G A H0 H locs w) {fs : List Value} (he : w a = some (.inr (ci, fs))) (hc : vwCl[ci]? = some (C, T, N)) (k : Nat) (hk : k < N) (hlink : (Cond.fieldLink own index ref (T k).2.1 (T k).2.2.1).before args s = true) (hsame : ∀ x, s.fieldFound? (T k).1 (T k).2.1 (T k).2.2.1 = some x → s.fieldFound? ref (T k).2.1 (T k).2.2.1 = some x) (hfin : (T k).2.2.2 = true) (hin2 : meth.name = "<init>") (hdecl : (T k).1 = own) {ty : FieldType} {v : Value} (hd : parseFieldDescriptor (T k).2.2.1 = some ty) (hn : narrow ty v = v) (hfit : fits ty v = true) (hl : k < fs.length)
    (hdg : decode cc pc = .ok (.putfield index, 3)) (kk : ∀ (H1 : Heap) (locs1 : List Loc), xH G A H0 H1 locs1 (va_up w a (some (.inr (ci, fs.set k v)))) → W p l e R s m args below meth c H1 locs1 cells slots Q (F0 m (pc + 3) ls rest)) : W p l e R s m args below meth c H locs cells slots Q (F0 m pc ls (v :: .ref a :: rest)) := by
  obtain ⟨hA, hS, ws, hP, hD, hm⟩ := hH
  obtain ⟨q0, hq⟩ := (hm _ _).mpr he
  exact va_putF hexec hb hts hin ty0 hty hnm hown hK hP hD hS q0 hq hc k hk hlink hsame hfin hin2 hdecl hd hn hfit hl hdg (fun H1 locs1 hP1 hD1 hS1 => kk H1 locs1 ⟨hA, hS1, xM_set hD hm hq hP1 hD1⟩)
theorem x_iald (hexec : p.tables.exec = Jvm.exec) (hb : c.code = cc) (hK : xK G s) (hH : xH G A H0 H locs w) {n : Nat} {f : Nat → Int32} (ha : w a = some (.inl (G.2 0, n, .inl f))) {i : Int32} (hin : vp_in i n) (hdg : decode cc pc = .ok (.iaload, 1))
    (kk : W p l e R s m args below meth c H locs cells slots Q (F0 m (pc + 1) ls (.int (f i.toNatClampNeg) :: rest))) : W p l e R s m args below meth c H locs cells slots Q (F0 m pc ls (.int i :: .ref a :: rest)) := by
  obtain ⟨hA, hS, ws, hP, hD, hm⟩ := hH
  obtain ⟨q0, hq⟩ := (hm _ _).mpr ha
  exact va_iald hexec hb hK hP q0 0 hq rfl hin hdg kk
theorem x_zald (hexec : p.tables.exec = Jvm.exec) (hb : c.code = cc) (hK : xK G s) (hH : xH G A H0 H locs w) {n : Nat} {f : Nat → Int32} (ha : w a = some (.inl (G.2 1, n, .inl f))) {i : Int32} (hin : vp_in i n) (hdg : decode cc pc = .ok (.baload, 1))
    (kk : W p l e R s m args below meth c H locs cells slots Q (F0 m (pc + 1) ls (.int (f i.toNatClampNeg) :: rest))) : W p l e R s m args below meth c H locs cells slots Q (F0 m pc ls (.int i :: .ref a :: rest)) := by
  obtain ⟨hA, hS, ws, hP, hD, hm⟩ := hH
  obtain ⟨q0, hq⟩ := (hm _ _).mpr ha
  exact va_zald hexec hb hK hP q0 1 hq rfl hin hdg kk
theorem x_bald (hexec : p.tables.exec = Jvm.exec) (hb : c.code = cc) (hK : xK G s) (hH : xH G A H0 H locs w) {n : Nat} {f : Nat → Int32} (ha : w a = some (.inl (G.2 2, n, .inl f))) {i : Int32} (hin : vp_in i n) (hdg : decode cc pc = .ok (.baload, 1))
    (kk : W p l e R s m args below meth c H locs cells slots Q (F0 m (pc + 1) ls (.int (f i.toNatClampNeg) :: rest))) : W p l e R s m args below meth c H locs cells slots Q (F0 m pc ls (.int i :: .ref a :: rest)) := by
  obtain ⟨hA, hS, ws, hP, hD, hm⟩ := hH
  obtain ⟨q0, hq⟩ := (hm _ _).mpr ha
  exact va_bald hexec hb hK hP q0 2 hq rfl hin hdg kk
theorem x_iast (hexec : p.tables.exec = Jvm.exec) (hb : c.code = cc) (hK : xK G s) (hH : xH G A H0 H locs w) {n : Nat} {f : Nat → Int32} (ha : w a = some (.inl (G.2 0, n, .inl f))) {i x : Int32} (hin : vp_in i n) (hdg : decode cc pc = .ok (.iastore, 1))
    (kk : ∀ (H1 : Heap) (locs1 : List Loc), xH G A H0 H1 locs1 (va_up w a (some (.inl (G.2 0, n, .inl (upd f i.toNatClampNeg x))))) → W p l e R s m args below meth c H1 locs1 cells slots Q (F0 m (pc + 1) ls rest)) : W p l e R s m args below meth c H locs cells slots Q (F0 m pc ls (.int x :: .int i :: .ref a :: rest)) := by
  obtain ⟨hA, hS, ws, hP, hD, hm⟩ := hH
  obtain ⟨q0, hq⟩ := (hm _ _).mpr ha
  exact va_iast hexec hb hK hP hD hS q0 0 hq rfl hin hdg (fun H1 locs1 hP1 hD1 hS1 => kk H1 locs1 ⟨hA, hS1, xM_set hD hm hq hP1 hD1⟩)
theorem x_zast (hexec : p.tables.exec = Jvm.exec) (hb : c.code = cc) (hK : xK G s) (hH : xH G A H0 H locs w) {n : Nat} {f : Nat → Int32} (ha : w a = some (.inl (G.2 1, n, .inl f))) {i x : Int32} (hin : vp_in i n) (hdg : decode cc pc = .ok (.bastore, 1))
    (kk : ∀ (H1 : Heap) (locs1 : List Loc), xH G A H0 H1 locs1 (va_up w a (some (.inl (G.2 1, n, .inl (upd f i.toNatClampNeg (vp_nar .boolean x)))))) → W p l e R s m args below meth c H1 locs1 cells slots Q (F0 m (pc + 1) ls rest)) : W p l e R s m args below meth c H locs cells slots Q (F0 m pc ls (.int x :: .int i :: .ref a :: rest)) := by
  obtain ⟨hA, hS, ws, hP, hD, hm⟩ := hH
  obtain ⟨q0, hq⟩ := (hm _ _).mpr ha
  exact va_zast hexec hb hK hP hD hS q0 1 hq rfl hin hdg (fun H1 locs1 hP1 hD1 hS1 => kk H1 locs1 ⟨hA, hS1, xM_set hD hm hq hP1 hD1⟩)
theorem x_bast (hexec : p.tables.exec = Jvm.exec) (hb : c.code = cc) (hK : xK G s) (hH : xH G A H0 H locs w) {n : Nat} {f : Nat → Int32} (ha : w a = some (.inl (G.2 2, n, .inl f))) {i x : Int32} (hin : vp_in i n) (hdg : decode cc pc = .ok (.bastore, 1))
    (kk : ∀ (H1 : Heap) (locs1 : List Loc), xH G A H0 H1 locs1 (va_up w a (some (.inl (G.2 2, n, .inl (upd f i.toNatClampNeg (vp_nar .byte x)))))) → W p l e R s m args below meth c H1 locs1 cells slots Q (F0 m (pc + 1) ls rest)) : W p l e R s m args below meth c H locs cells slots Q (F0 m pc ls (.int x :: .int i :: .ref a :: rest)) := by
  obtain ⟨hA, hS, ws, hP, hD, hm⟩ := hH
  obtain ⟨q0, hq⟩ := (hm _ _).mpr ha
  exact va_bast hexec hb hK hP hD hS q0 2 hq rfl hin hdg (fun H1 locs1 hP1 hD1 hS1 => kk H1 locs1 ⟨hA, hS1, xM_set hD hm hq hP1 hD1⟩)
theorem x_alen (hexec : p.tables.exec = Jvm.exec) (hb : c.code = cc) (hK : xK G s) (hH : xH G A H0 H locs w) (t0 : Nat) {cA : ClassId} {x : vp_A} (ha : w a = some (.inl (cA, x))) {ty : FieldType} (ht : (xt G)[t0]? = some (cA, ty)) {v : Int32} (hv : Int32.ofNat x.1 = v) (hdg : decode cc pc = .ok (.arraylength, 1))
    (kk : W p l e R s m args below meth c H locs cells slots Q (F0 m (pc + 1) ls (.int v :: rest))) : W p l e R s m args below meth c H locs cells slots Q (F0 m pc ls (.ref a :: rest)) := by
  obtain ⟨hA, hS, ws, hP, hD, hm⟩ := hH
  obtain ⟨q0, hq⟩ := (hm _ _).mpr ha
  exact va_alen hexec hb hK hP q0 t0 hq ht hv hdg kk
theorem x_new (hexec : p.tables.exec = Jvm.exec) (hb : c.code = cc) {own C : String} {T : u_T} {N ci index : Nat} {Ts : List Cond} (hts : ∀ w ∈ Ts, w.before args s = true) (hin : ∀ w ∈ u_ws C T N, w ∈ Ts) (ty : Nat → FieldType) (hty : ∀ k, k < N → parseFieldDescriptor (T k).2.2.1 = some (ty k)) (hown : s.vm.findClass own = some m.cls) (hcl : (Cond.classLink own index C).before args s = true) (hinst : (Cond.instantiable C N).before args s = true) (hini : (Cond.initialized C).before args s = true)
    (hK : xK G s) (hH : xH G A H0 H locs w) (hc : vwCl[ci]? = some (C, T, N)) {fs : List Value} (hfs : ∀ j, j < N → defaultValue (ty j) = vp_V fs j) (hcells : cells + 1 ≤ R.cells) (hslots : slots + N ≤ R.slots) (hdg : decode cc pc = .ok (.new index, 3))
    (kk : ∀ (q : Nat) (H1 : Heap), w q = none → xH G A H0 H1 locs (va_up w q (some (.inr (ci, fs)))) →
      W p l e R s m args below meth c H1 locs (cells + 1) (slots + N) Q (F0 m (pc + 3) ls (.ref q :: rest))) : W p l e R s m args below meth c H locs cells slots Q (F0 m pc ls rest) := by
  obtain ⟨hA, hS, ws, hP, hD, hm⟩ := hH
  exact va_new hexec hb hts hin ty hty hown hcl hinst hini hK hP hD hS hA hc hfs hcells hslots hdg (fun q H1 hP1 hD1 hS1 => kk q H1 (xM_push hm hP1 hD1).2 ⟨hA, hS1, (xM_push hm hP1 hD1).1⟩)
theorem x_newa (hexec : p.tables.exec = Jvm.exec) (hb : c.code = cc) {atype : ArrayType} (harr : (Cond.arrayClass (newarray.typeOf atype)).before args s = true) {ty : FieldType} (hty : newarray.typeOf atype = ty) (t0 : Nat) {cA : ClassId} (ht : (xt G)[t0]? = some (cA, ty)) (hpr : ∀ C : String, ty ≠ .object C) (hK : xK G s) (hH : xH G A H0 H locs w)
    {n : Int32} {N' : Nat} {a0 : vp_A} (ha : ∀ cA : ClassId, vp_cell cA a0 = arrV cA N' (fun _ => defaultValue ty)) (hn : ¬ n < 0) (hN : n.toNatClampNeg = N') (hbytes : N' * componentBytes ty ≤ 536870912) (hcells : cells + 1 ≤ R.cells) (hslots : slots + N' ≤ R.slots) (hdg : decode cc pc = .ok (.newarray atype, 2))
    (kk : ∀ (q : Nat) (H1 : Heap), w q = none → xH G A H0 H1 locs (va_up w q (some (.inl (cA, a0)))) →
      W p l e R s m args below meth c H1 locs (cells + 1) (slots + N') Q (F0 m (pc + 2) ls (.ref q :: rest))) : W p l e R s m args below meth c H locs cells slots Q (F0 m pc ls (.int n :: rest)) := by
  obtain ⟨hA, hS, ws, hP, hD, hm⟩ := hH
  refine va_newa hexec hb harr hty hK hP hD hS hA ha hn hN hbytes hcells hslots hdg (fun q cB H1 hK1 hP1 hD1 hS1 => ?_)
  have e1 := (hK1.2 (xt G).length (cB, ty) (by simp)).2
  have e2 := (hK.2 t0 (cA, ty) ht).2
  have e : cB = cA := by
    cases ty with
    | object C => exact absurd rfl (hpr C)
    | _ => exact Option.some.inj (Eq.trans (Eq.symm e1) e2)
  subst e
  exact kk q H1 (xM_push hm hP1 hD1).2 ⟨hA, hS1, (xM_push hm hP1 hD1).1⟩
/-- before a call -/
theorem x_blind {av : List Value} : FrameBlind (va_Pc av (xP G A w)) := fun a U g mk q => by
  obtain ⟨q0, qK, qH, qS, qN, qL⟩ := q
  exact ⟨q0, va_K.moved (u := U) (U := U.calling g mk a) (Vm.Alike.refl U.vm) qK, qH, xSt_to (U := U.calling g mk a) qS (Vm.Alike.refl U.vm) va_S.rf, xNs_same (U := U.calling g mk a) qN rfl, xLs_to (U := U.calling g mk a) qL (Vm.Alike.refl U.vm)⟩
theorem x_at (hK : xK G s) (hH : xH G A s.heap H locs w) (hT : xT G A s) {U : State} (hU : U.heap = H) (hW : s.WarmedH U.vm) : xP G A w U := by
  refine ⟨va_K.moved hW.alike hK, ?_, ?_, xNs_to hT.2.1 hW, xLs_to hT.2.2 hW.alike⟩
  · obtain ⟨hA, hS, hM⟩ := hH
    rw [hU]
    exact ⟨fun q h => hA q (Nat.le_trans hS.1 h), va_S.rf, hM⟩
  · rw [hU]
    exact xSt_to hT.1 hW.alike hH.2.1
theorem x_preV (hK : xK G s) (hH : xH G A s.heap H locs w) (hT : xT G A s) {C : String} {T : u_T} {N ci b : Nat} {fs : List Value} (he : w b = some (.inr (ci, fs))) (hc : vwCl[ci]? = some (C, T, N)) (As : List Value) : PreV s H C b (va_Pc (.ref b :: As) (xP G A w)) As := by
  refine ⟨x_blind, ?_, fun U hU hW => ⟨rfl, x_at hK hH hT hU hW⟩⟩
  obtain ⟨hA, hS, ws, hP, hD, hm⟩ := hH
  obtain ⟨q0, hq⟩ := (hm _ _).mpr he
  exact va_recv hK hP hc hq
theorem x_preS (hK : xK G s) (hH : xH G A s.heap H locs w) (hT : xT G A s) (As : List Value) : PreS s H (va_Pc As (xP G A w)) As := ⟨x_blind, fun U hU hW => ⟨rfl, x_at hK hH hT hU hW⟩⟩
/-- behind a call -/
theorem x_calli {st0 : List Value} {av : Array Value} {mc ms : Nat} {S : Type} {post : Int32 → S → Prop} {f : S → XW} (hr : va_Run p l e R s m args below meth c H locs cells slots mc ms (F0 m pc ls st0) rest (va_Qi post (fun u t => xB G A (f u) t) A av) A) (hH : xH G A H0 H locs w)
    (kk : ∀ (r : Int32) (u : S) (H1 : Heap) (locs1 : List Loc), post r u → xH G A H0 H1 locs1 (f u) → W p l e R s m args below meth c H1 locs1 (cells + mc) (slots + ms) Q (F0 m (pc + 3) ls (.int r :: rest))) : W p l e R s m args below meth c H locs cells slots Q (F0 m pc ls st0) :=
  va_calli hr hH.2.1 (fun _ _ h => h) (fun _ h => h) (fun r u t H1 locs1 ht _ hp hB _ _ hS => kk r u H1 locs1 hp ⟨hH.1, hS, ht ▸ hB.2⟩)
theorem x_callv {st0 : List Value} {av : Array Value} {mc ms : Nat} {S : Type} {post : S → Prop} {f : S → XW} (hr : va_Run p l e R s m args below meth c H locs cells slots mc ms (F0 m pc ls st0) rest (va_Qv post (fun u t => xB G A (f u) t) A av) A) (hH : xH G A H0 H locs w)
    (kk : ∀ (u : S) (H1 : Heap) (locs1 : List Loc), post u → xH G A H0 H1 locs1 (f u) → W p l e R s m args below meth c H1 locs1 (cells + mc) (slots + ms) Q (F0 m (pc + 3) ls rest)) : W p l e R s m args below meth c H locs cells slots Q (F0 m pc ls st0) :=
  va_callv hr hH.2.1 (fun _ _ h => h) (fun _ h => h) (fun u t H1 locs1 ht _ hp hB _ _ hS => kk u H1 locs1 hp ⟨hH.1, hS, ht ▸ hB.2⟩)
/-- the end -/
theorem x_iret {S : Type} {post : Int32 → S → Prop} {f : S → XW} {v : Int32} (u : S) (hexec : p.tables.exec = Jvm.exec) (hb : c.code = cc) (hr : meth.sig.returnType = some .int) (hlocks : meth.locks = false) (hK : xK G s) (hH : xH G A s.heap H locs (f u)) (hp : post v u) (hdg : decode cc pc = .ok (.ireturn, 1)) :
    W p l e R s m args below meth c H locs cells slots (MQ below (va_Qi post (fun u t => xB G A (f u) t) A) args s cells slots A) (F0 m pc ls [.int v]) :=
  W.iret hexec hb hr (fun t ht hW => ⟨⟨v, u, rfl, hp, va_K.moved hW.alike hK, by rw [ht]; exact hH.2.2⟩, hH.2.1.F ht⟩) hH.2.1.2.2 hdg
theorem x_zret {S : Type} {post : Int32 → S → Prop} {f : S → XW} {v : Int32} {ty : FieldType} (u : S) (hexec : p.tables.exec = Jvm.exec) (hb : c.code = cc) (hr : meth.sig.returnType = some ty) (hlocks : meth.locks = false) (hn : narrow ty (.int v) = .int v) (hK : xK G s) (hH : xH G A s.heap H locs (f u)) (hp : post v u) (hdg : decode cc pc = .ok (.ireturn, 1)) :
    W p l e R s m args below meth c H locs cells slots (MQ below (va_Qi post (fun u t => xB G A (f u) t) A) args s cells slots A) (F0 m pc ls [.int v]) :=
  W.zret hexec hb hr hn (fun t ht hW => ⟨⟨v, u, rfl, hp, va_K.moved hW.alike hK, by rw [ht]; exact hH.2.2⟩, hH.2.1.F ht⟩) hH.2.1.2.2 hdg
theorem x_vret {S : Type} {post : S → Prop} {f : S → XW} (u : S) (hexec : p.tables.exec = Jvm.exec) (hb : c.code = cc) (hr : meth.sig.returnType = none) (hlocks : meth.locks = false) (hK : xK G s) (hH : xH G A s.heap H locs (f u)) (hp : post u) (hdg : decode cc pc = .ok (.return_, 1)) :
    W p l e R s m args below meth c H locs cells slots (MQ below (va_Qv post (fun u t => xB G A (f u) t) A) args s cells slots A) (F0 m pc ls []) :=
  W.vret hexec hb hr (fun t ht hW => ⟨⟨u, rfl, hp, va_K.moved hW.alike hK, by rw [ht]; exact hH.2.2⟩, hH.2.1.F ht⟩) hH.2.1.2.2 hdg
end XR
end
section
/-! THE MODEL'S CELLS: k = 0 its object, else the array of field k; I its ints by field, F its arrays by field; b: the rest of the world -/
def mlen (k : Nat) : Nat := match k with
  | 1 => 3650 | 2 => 3650 | 11 => 180 | 12 => 180 | 13 => 180 | 14 => 720 | 15 => 180 | 17 => 200 | 18 => 800 | 19 => 12000 | 20 => 200 | 21 => 200
  | 22 => 6 | 23 => 6 | 24 => 6 | 25 => 6 | 33 => 6 | 34 => 144 | 35 => 6 | 36 => 6 | _ => 60
def mz (k : Nat) : Nat := match k with
  | 8 => 1 | 20 => 1 | 21 => 1 | 22 => 1 | _ => 0
def mlive (k : Nat) : Bool := match k with
  | 3 => false | 16 => false | 26 => false | 27 => false | 28 => false | 29 => false | 30 => false | 31 => false | 32 => false | _ => decide (k < 37)
def mobj (ad : Nat → Nat) (I : Nat → Int32) : List Value := [.int (I 0), .ref (ad 1), .ref (ad 2), .int (I 3), .ref (ad 4), .ref (ad 5), .ref (ad 6), .ref (ad 7), .ref (ad 8), .ref (ad 9), .ref (ad 10), .ref (ad 11), .ref (ad 12), .ref (ad 13), .ref (ad 14), .ref (ad 15), .int (I 16), .ref (ad 17), .ref (ad 18), .ref (ad 19), .ref (ad 20), .ref (ad 21), .ref (ad 22), .ref (ad 23), .ref (ad 24), .ref (ad 25), .int (I 26), .int (I 27), .int (I 28), .int (I 29), .int (I 30), .int (I 31), .int (I 32), .ref (ad 33), .ref (ad 34), .ref (ad 35), .ref (ad 36), .int (I 37), .int (I 38)]
def mst (G : XG) (ad : Nat → Nat) (I : Nat → Int32) (F : Nat → Nat → Int32) (k : Nat) : va_E := if k = 0 then .inr (8, mobj ad I) else .inl (G.2 (mz k), mlen k, .inl (F k))
def mw (G : XG) (ρ : Nat → Option Nat) (ad : Nat → Nat) (b : XW) (I : Nat → Int32) (F : Nat → Nat → Int32) : XW := fun a => match ρ a with
  | some k => some (mst G ad I F k)
  | none => b a
def mA (ρ : Nat → Option Nat) (ad : Nat → Nat) : Prop := (∀ k, mlive k = true → ρ (ad k) = some k) ∧ ∀ a k, ρ a = some k → a = ad k
theorem mw_at {G : XG} {ρ : Nat → Option Nat} {ad : Nat → Nat} {b : XW} {I : Nat → Int32} {F : Nat → Nat → Int32} (hρ : mA ρ ad) {k : Nat} (hk : mlive k = true) : mw G ρ ad b I F (ad k) = some (mst G ad I F k) := by
  simp only [mw, hρ.1 k hk]
theorem mw_ob {G : XG} {ρ : Nat → Option Nat} {ad : Nat → Nat} {b : XW} {I : Nat → Int32} {F : Nat → Nat → Int32} (hρ : mA ρ ad) : mw G ρ ad b I F (ad 0) = some (.inr (8, mobj ad I)) := mw_at hρ rfl
theorem mw_ar {G : XG} {ρ : Nat → Option Nat} {ad : Nat → Nat} {b : XW} {I : Nat → Int32} {F : Nat → Nat → Int32} (hρ : mA ρ ad) {k n z : Nat} (hk : mlive k = true) (h0 : k ≠ 0) (hn : mlen k = n) (hz : mz k = z) : mw G ρ ad b I F (ad k) = some (.inl (G.2 z, n, .inl (F k))) := by
  rw [mw_at hρ hk, mst, if_neg h0, hn, hz]
theorem mw_upF {G : XG} {ρ : Nat → Option Nat} {ad : Nat → Nat} {b : XW} {I : Nat → Int32} {F : Nat → Nat → Int32} (hρ : mA ρ ad) {k n z : Nat} {g : Nat → Int32} (hk : mlive k = true) (h0 : k ≠ 0) (hn : mlen k = n) (hz : mz k = z) : va_up (mw G ρ ad b I F) (ad k) (some (.inl (G.2 z, n, .inl g))) = mw G ρ ad b I (va_up F k g) := by
  funext a
  by_cases ha : a = ad k
  · subst ha
    rw [mw_ar (F := va_up F k g) hρ hk h0 hn hz]
    simp [va_up]
  · rw [show va_up (mw G ρ ad b I F) (ad k) (some (.inl (G.2 z, n, .inl g))) a = mw G ρ ad b I F a from if_neg ha]
    simp only [mw]
    cases hr : ρ a with
    | none => rfl
    | some j =>
      have hj : j ≠ k := fun e => ha (by rw [hρ.2 a j hr, e])
      simp only [mst]
      rw [show va_up F k g j = F j from if_neg hj]
theorem mw_upI {G : XG} {ρ : Nat → Option Nat} {ad : Nat → Nat} {b : XW} {I J : Nat → Int32} {F : Nat → Nat → Int32} (hρ : mA ρ ad) {fs : List Value} (hJ : fs = mobj ad J) : va_up (mw G ρ ad b I F) (ad 0) (some (.inr (8, fs))) = mw G ρ ad b J F := by
  subst hJ
  funext a
  by_cases ha : a = ad 0
  · subst ha
    rw [mw_ob (I := J) hρ]
    simp [va_up]
  · rw [show va_up (mw G ρ ad b I F) (ad 0) (some (.inr (8, mobj ad J))) a = mw G ρ ad b I F a from if_neg ha]
    simp only [mw]
    cases hr : ρ a with
    | none => rfl
    | some j =>
      have hj : j ≠ 0 := fun e => ha (by rw [hρ.2 a j hr, e])
      simp only [mst, if_neg hj]
/-- one place of one array -/
def setA (F : Nat → Nat → Int32) (k j : Nat) (x : Int32) : Nat → Nat → Int32 := va_up F k (upd (F k) j x)
theorem setA_k (F : Nat → Nat → Int32) (k j : Nat) (x : Int32) : setA F k j x k = upd (F k) j x := if_pos rfl
theorem setA_n (F : Nat → Nat → Int32) {k q : Nat} (j : Nat) (x : Int32) (h : q ≠ k) : setA F k j x q = F q := if_neg h
theorem setA_e (F : Nat → Nat → Int32) (k j : Nat) (x : Int32) (q i : Nat) : setA F k j x q i = if q = k ∧ i = j then x else F q i := by
  unfold setA va_up upd
  by_cases h : q = k <;> by_cases h2 : i = j <;> simp [h, h2]
theorem vI_in {i : Int32} {j n : Nat} (hi : i = nI j) (hj : j < n) (hn : n < 2 ^ 31) : vp_in i n := by rw [hi]; exact vp_in_nI hj hn
section MR
variable {p : Program} {l : Launch} {e : Env} {R : Room} {s : State} {m : MethodId} {args : Array Value} {below : List Frame} {meth : Method} {c : Code} {H : Heap} {locs : List Loc} {cells slots : Nat} {Q : State → Prop}
variable {cc : ByteArray} {pc : Nat} {ls : Array Slot} {rest : List Value} {G : XG} {A : Nat → Prop} {H0 : Heap} {ρ : Nat → Option Nat} {ad : Nat → Nat} {b : XW} {I : Nat → Int32} {F : Nat → Nat → Int32}
theorem M_get (hexec : p.tables.exec = Jvm.exec) (hb : c.code = cc) {index : Nat} {Ts : List Cond} (hts : ∀ w ∈ Ts, w.before args s = true) (hin : ∀ w ∈ wsX70, w ∈ Ts) (hown : s.vm.findClass RX7 = some m.cls) (hK : xK G s) (hρ : mA ρ ad) (hH : xH G A H0 H locs (mw G ρ ad b I F)) (k : Nat) (hk : k < 39) (hlink : (Cond.fieldLink RX7 index (TX7 k).1 (TX7 k).2.1 (TX7 k).2.2.1).before args s = true) {v : Value} (hv : (mobj ad I)[k]? = some v) (hdg : decode cc pc = .ok (.getfield index, 3))
    (kk : W p l e R s m args below meth c H locs cells slots Q (F0 m (pc + 3) ls (v :: rest))) : W p l e R s m args below meth c H locs cells slots Q (F0 m pc ls (.ref (ad 0) :: rest)) :=
  x_get (C := RX7) (T := TX7) (N := 39) hexec hb hts hin hown hK hH (mw_ob hρ) rfl k hk hlink (fun _ h => h) hv hdg kk
theorem M_put (hexec : p.tables.exec = Jvm.exec) (hb : c.code = cc) {index : Nat} {Ts : List Cond} (hts : ∀ w ∈ Ts, w.before args s = true) (hin : ∀ w ∈ wsX70, w ∈ Ts) (hown : s.vm.findClass RX7 = some m.cls) (hK : xK G s) (hρ : mA ρ ad) (hH : xH G A H0 H locs (mw G ρ ad b I F)) (k : Nat) (hk : k < 39) (hlink : (Cond.fieldLink RX7 index (TX7 k).1 (TX7 k).2.1 (TX7 k).2.2.1).before args s = true) (hfin : (TX7 k).2.2.2 = false) {x : Int32} (hd : parseFieldDescriptor (TX7 k).2.2.1 = some .int) (hJ : (mobj ad I).set k (.int x) = mobj ad (va_up I k x)) (hdg : decode cc pc = .ok (.putfield index, 3))
    (kk : ∀ (H1 : Heap) (locs1 : List Loc), xH G A H0 H1 locs1 (mw G ρ ad b (va_up I k x) F) → W p l e R s m args below meth c H1 locs1 cells slots Q (F0 m (pc + 3) ls rest)) : W p l e R s m args below meth c H locs cells slots Q (F0 m pc ls (.int x :: .ref (ad 0) :: rest)) :=
  x_put (C := RX7) (T := TX7) (N := 39) (ty := .int) hexec hb hts hin tyX7 tyX7_ok nmX7 hown hK hH (mw_ob hρ) rfl k hk hlink (fun _ h => h) hfin hd rfl rfl hk hdg (fun H1 locs1 h => kk H1 locs1 (xH_of h (mw_upI hρ hJ)))
theorem M_iald (hexec : p.tables.exec = Jvm.exec) (hb : c.code = cc) (hK : xK G s) (hρ : mA ρ ad) (hH : xH G A H0 H locs (mw G ρ ad b I F)) (k n : Nat) (hc : mlive k = true ∧ k ≠ 0 ∧ mlen k = n ∧ mz k = 0 ∧ n < 2 ^ 31) {i : Int32} (j : Nat) (hi : i = nI j) (hj : j < n) (hdg : decode cc pc = .ok (.iaload, 1))
    (kk : W p l e R s m args below meth c H locs cells slots Q (F0 m (pc + 1) ls (.int (F k j) :: rest))) : W p l e R s m args below meth c H locs cells slots Q (F0 m pc ls (.int i :: .ref (ad k) :: rest)) := by
  refine x_iald hexec hb hK hH (mw_ar hρ hc.1 hc.2.1 hc.2.2.1 hc.2.2.2.1) (vI_in hi hj hc.2.2.2.2) hdg ?_
  rw [hi, nI_clamp (Nat.lt_trans hj hc.2.2.2.2)]
  exact kk
theorem M_zald (hexec : p.tables.exec = Jvm.exec) (hb : c.code = cc) (hK : xK G s) (hρ : mA ρ ad) (hH : xH G A H0 H locs (mw G ρ ad b I F)) (k n : Nat) (hc : mlive k = true ∧ k ≠ 0 ∧ mlen k = n ∧ mz k = 1 ∧ n < 2 ^ 31) {i : Int32} (j : Nat) (hi : i = nI j) (hj : j < n) (hdg : decode cc pc = .ok (.baload, 1))
    (kk : W p l e R s m args below meth c H locs cells slots Q (F0 m (pc + 1) ls (.int (F k j) :: rest))) : W p l e R s m args below meth c H locs cells slots Q (F0 m pc ls (.int i :: .ref (ad k) :: rest)) := by
  refine x_zald hexec hb hK hH (mw_ar hρ hc.1 hc.2.1 hc.2.2.1 hc.2.2.2.1) (vI_in hi hj hc.2.2.2.2) hdg ?_
  rw [hi, nI_clamp (Nat.lt_trans hj hc.2.2.2.2)]
  exact kk
theorem M_iast (hexec : p.tables.exec = Jvm.exec) (hb : c.code = cc) (hK : xK G s) (hρ : mA ρ ad) (hH : xH G A H0 H locs (mw G ρ ad b I F)) (k n : Nat) (hc : mlive k = true ∧ k ≠ 0 ∧ mlen k = n ∧ mz k = 0 ∧ n < 2 ^ 31) {i x : Int32} (j : Nat) (hi : i = nI j) (hj : j < n) (hdg : decode cc pc = .ok (.iastore, 1))
    (kk : ∀ (H1 : Heap) (locs1 : List Loc), xH G A H0 H1 locs1 (mw G ρ ad b I (setA F k j x)) → W p l e R s m args below meth c H1 locs1 cells slots Q (F0 m (pc + 1) ls rest)) : W p l e R s m args below meth c H locs cells slots Q (F0 m pc ls (.int x :: .int i :: .ref (ad k) :: rest)) := by
  refine x_iast hexec hb hK hH (mw_ar hρ hc.1 hc.2.1 hc.2.2.1 hc.2.2.2.1) (vI_in hi hj hc.2.2.2.2) hdg (fun H1 locs1 h => kk H1 locs1 ?_)
  rw [mw_upF hρ hc.1 hc.2.1 hc.2.2.1 hc.2.2.2.1, hi, nI_clamp (Nat.lt_trans hj hc.2.2.2.2)] at h
  exact h
theorem M_zast (hexec : p.tables.exec = Jvm.exec) (hb : c.code = cc) (hK : xK G s) (hρ : mA ρ ad) (hH : xH G A H0 H locs (mw G ρ ad b I F)) (k n : Nat) (hc : mlive k = true ∧ k ≠ 0 ∧ mlen k = n ∧ mz k = 1 ∧ n < 2 ^ 31) {i x : Int32} (j : Nat) (hi : i = nI j) (hj : j < n) (hx : vp_nar .boolean x = x) (hdg : decode cc pc = .ok (.bastore, 1))
    (kk : ∀ (H1 : Heap) (locs1 : List Loc), xH G A H0 H1 locs1 (mw G ρ ad b I (setA F k j x)) → W p l e R s m args below meth c H1 locs1 cells slots Q (F0 m (pc + 1) ls rest)) : W p l e R s m args below meth c H locs cells slots Q (F0 m pc ls (.int x :: .int i :: .ref (ad k) :: rest)) := by
  refine x_zast hexec hb hK hH (mw_ar hρ hc.1 hc.2.1 hc.2.2.1 hc.2.2.2.1) (vI_in hi hj hc.2.2.2.2) hdg (fun H1 locs1 h => kk H1 locs1 ?_)
  rw [mw_upF hρ hc.1 hc.2.1 hc.2.2.1 hc.2.2.2.1, hi, nI_clamp (Nat.lt_trans hj hc.2.2.2.2), hx] at h
  exact h
/-- rows over numbers that aren't negative -/
theorem N_iadd (hexec : p.tables.exec = Jvm.exec) (hb : c.code = cc) {x y : Int32} (i j : Nat) (hx : x = nI i) (hy : y = nI j) (hdg : decode cc pc = .ok (.iadd, 1)) (kk : W p l e R s m args below meth c H locs cells slots Q (F0 m (pc + 1) ls (.int (nI (i + j)) :: rest))) : W p l e R s m args below meth c H locs cells slots Q (F0 m pc ls (.int y :: .int x :: rest)) := by
  refine lv_iadd hexec hb hdg ?_
  rw [hx, hy, nI_add]
  exact kk
theorem N_imul (hexec : p.tables.exec = Jvm.exec) (hb : c.code = cc) {x y : Int32} (i j : Nat) (hx : x = nI i) (hy : y = nI j) (hdg : decode cc pc = .ok (.imul, 1)) (kk : W p l e R s m args below meth c H locs cells slots Q (F0 m (pc + 1) ls (.int (nI (i * j)) :: rest))) : W p l e R s m args below meth c H locs cells slots Q (F0 m pc ls (.int y :: .int x :: rest)) := by
  refine lv_imul hexec hb hdg ?_
  rw [hx, hy, pk_mul]
  exact kk
theorem N_isub (hexec : p.tables.exec = Jvm.exec) (hb : c.code = cc) {x y : Int32} (i j : Nat) (hx : x = nI i) (hy : y = nI j) (h : j ≤ i) (hdg : decode cc pc = .ok (.isub, 1)) (kk : W p l e R s m args below meth c H locs cells slots Q (F0 m (pc + 1) ls (.int (nI (i - j)) :: rest))) : W p l e R s m args below meth c H locs cells slots Q (F0 m pc ls (.int y :: .int x :: rest)) := by
  refine lv_isub hexec hb hdg ?_
  rw [hx, hy, pk_sub h]
  exact kk
theorem N_idiv (hexec : p.tables.exec = Jvm.exec) (hb : c.code = cc) {x y : Int32} (i j : Nat) (hx : x = nI i) (hy : y = nI j) (hi : i < 2 ^ 31) (h0 : 0 < j) (hj : j < 2 ^ 31) (hdg : decode cc pc = .ok (.idiv, 1)) (kk : W p l e R s m args below meth c H locs cells slots Q (F0 m (pc + 1) ls (.int (nI (i / j)) :: rest))) : W p l e R s m args below meth c H locs cells slots Q (F0 m pc ls (.int y :: .int x :: rest)) := by
  refine lv_idiv hexec hb hdg (by rw [hy]; exact nI_ne0 h0 hj) ?_
  rw [hx, hy, pk_div hi h0 hj]
  exact kk
theorem N_irem (hexec : p.tables.exec = Jvm.exec) (hb : c.code = cc) {x y : Int32} (i j : Nat) (hx : x = nI i) (hy : y = nI j) (hi : i < 2 ^ 31) (h0 : 0 < j) (hj : j < 2 ^ 31) (hdg : decode cc pc = .ok (.irem, 1)) (kk : W p l e R s m args below meth c H locs cells slots Q (F0 m (pc + 1) ls (.int (nI (i % j)) :: rest))) : W p l e R s m args below meth c H locs cells slots Q (F0 m pc ls (.int y :: .int x :: rest)) := by
  refine lv_irem hexec hb hdg (by rw [hy]; exact nI_ne0 h0 hj) ?_
  rw [hx, hy, pk_rem hi h0 hj]
  exact kk
end MR
end
section
/-! ROWS OF ROWS OF INTS: making one, reading a row of it -/
theorem xM_add {G : XG} {A : Nat → Prop} {w : XW} {H : Heap} {q : Nat} {e1 : va_E} (h : xM G A w H) (hq : w q = none) (hA : A q) (hat : va_at G.1 vwCl (q, e1) H) : xM G A (va_up w q (some e1)) H := by
  obtain ⟨ws, hP, hD, hm⟩ := h
  have hno : ∀ (j : Nat) (x : Nat × va_E), ws[j]? = some x → x.1 ≠ q := fun j x hj he => by
    have := (hm x.1 x.2).mp ⟨j, hj⟩
    rw [he, hq] at this
    cases this
  have hget : ∀ (k : Nat) (x : Nat × va_E), (ws ++ [(q, e1)])[k]? = some x → (k < ws.length ∧ ws[k]? = some x) ∨ (k = ws.length ∧ x = (q, e1)) := fun k x hx => by
    by_cases hl : k < ws.length
    · rw [List.getElem?_append_left hl] at hx
      exact Or.inl ⟨hl, hx⟩
    · rw [List.getElem?_append_right (by omega)] at hx
      have h0 : k - ws.length < 1 := (List.getElem?_eq_some_iff.mp hx).1
      rw [show k - ws.length = 0 by omega] at hx
      cases hx
      exact Or.inr ⟨by omega, rfl⟩
  refine (xM_push (G := G) (A := A) (w := w) (H1 := H) hm ?_ ?_).1
  · intro k x hx
    rcases hget k x hx with ⟨-, h1⟩ | ⟨-, rfl⟩
    · exact hP k x h1
    · exact hat
  · refine ⟨fun i j x y hi hj he => ?_, fun k x hx => ?_⟩
    · rcases hget i x hi with ⟨-, h1⟩ | ⟨rfl, rfl⟩
      · rcases hget j y hj with ⟨-, h2⟩ | ⟨rfl, rfl⟩
        · exact hD.1 i j x y h1 h2 he
        · exact absurd he (hno i x h1)
      · rcases hget j y hj with ⟨-, h2⟩ | ⟨rfl, rfl⟩
        · exact absurd he.symm (hno j y h2)
        · rfl
    · rcases hget k x hx with ⟨-, h1⟩ | ⟨-, rfl⟩
      · exact hD.2 k x h1
      · exact hA
theorem xM_kept {G : XG} {A : Nat → Prop} {w : XW} {H H1 : Heap} (h : xM G A w H) (hk : ∀ x : Nat, x < H.size → H1[x]? = H[x]?) : xM G A w H1 := by
  obtain ⟨ws, hP, hD, hm⟩ := h
  exact ⟨ws, hP.kept (fun k x hx => hk x.1 ((hP k x hx).lt)), hD, hm⟩
theorem xM_fresh {G : XG} {A : Nat → Prop} {w : XW} {H : Heap} (h : xM G A w H) {q : Nat} (hq : H.size ≤ q) : w q = none := by
  obtain ⟨ws, hP, hD, hm⟩ := h
  cases hw : w q with
  | none => rfl
  | some e =>
    obtain ⟨k, hk⟩ := (hm q e).mpr hw
    have := (hP k _ hk).lt
    omega
def xgrid (G : XG) (w : XW) (q : Nat) : XW := va_up (va_up (va_up (va_up (va_up (va_up (va_up w q (some (.inl (G.2 5, 6, .inr (.inr (.inr (.inr (fun i => if i < 6 then some (q + 1 + i) else none)))))))) (q + 1) (some (.inl (G.2 0, 20, .inl (fun _ => 0))))) (q + 2) (some (.inl (G.2 0, 20, .inl (fun _ => 0))))) (q + 3) (some (.inl (G.2 0, 20, .inl (fun _ => 0))))) (q + 4) (some (.inl (G.2 0, 20, .inl (fun _ => 0))))) (q + 5) (some (.inl (G.2 0, 20, .inl (fun _ => 0))))) (q + 6) (some (.inl (G.2 0, 20, .inl (fun _ => 0))))
/-! new int[6][20], out of the machine's own step -/
/-- the outer row, i of its six rows made -/
def gO (c : ClassId) (q i : Nat) : Cell := arrV c 6 (fun j => va_rf (if j < i then some (q + 1 + j) else none))
/-- a row of twenty -/
def gI (c : ClassId) : Cell := arrV c 20 (fun _ => .int 0)
theorem gO_next (c : ClassId) (q i : Nat) : (gO c q i).setSlot i (.ref (q + 1 + i)) = gO c q (i + 1) := by
  unfold gO
  rw [arrV_store]
  refine congrArg (arrV c 6) (funext fun j => ?_)
  by_cases e : j = i
  · subst e
    simp [updV, va_rf]
  · have e1 : (j < i + 1) = (j < i) := propext (by omega)
    simp only [updV, if_neg e, e1]
/-- the world, i rows made -/
def gS (T : State) (cA cI : ClassId) : Nat → State
  | 0 => T.pushCell (gO cA T.heap.size 0)
  | i + 1 => ((gS T cA cI i).pushCell (gI cI)).setCell T.heap.size (gO cA T.heap.size (i + 1))
/-- what stands in it -/
def gH (T U : State) (cA cI : ClassId) (i : Nat) : Prop := U.vm = T.vm ∧ U.heap.size = T.heap.size + 1 + i ∧ U.slotsUsed = T.slotsUsed + 6 + 20 * i ∧ U.heap[T.heap.size]? = some (gO cA T.heap.size i) ∧ (∀ x, x < T.heap.size → U.heap[x]? = T.heap[x]?) ∧ ∀ j, j < i → U.heap[T.heap.size + 1 + j]? = some (gI cI)
theorem gS_ok (T : State) (cA cI : ClassId) : ∀ i : Nat, gH T (gS T cA cI i) cA cI i
  | 0 => ⟨rfl, size_pushCell _ _, by show T.slotsUsed + (gO cA T.heap.size 0).slots.size = _; rw [show (gO cA T.heap.size 0).slots.size = 6 from arrV_size _ _ _], State.heap_pushCell_size _ _, fun x hx => State.heap_pushCell_of_lt _ _ hx, fun j hj => absurd hj (Nat.not_lt_zero j)⟩
  | i + 1 => by
    obtain ⟨h1, h2, h3, h4, h5, h6⟩ := gS_ok T cA cI i
    have hlo : ∀ x, x < T.heap.size + 1 + i → ((gS T cA cI i).pushCell (gI cI)).heap[x]? = (gS T cA cI i).heap[x]? := fun x hx => State.heap_pushCell_of_lt _ _ (by rw [h2]; exact hx)
    have hat : ((gS T cA cI i).pushCell (gI cI)).heap[T.heap.size]? = some (gO cA T.heap.size i) := (hlo _ (by omega)).trans h4
    refine ⟨h1, ?_, ?_, State.heap_setCell_self hat, fun x hx => ?_, fun j hj => ?_⟩
    · show (((gS T cA cI i).pushCell (gI cI)).setCell _ _).heap.size = _
      rw [size_setCell, size_pushCell, h2]
      omega
    · show (gS T cA cI i).slotsUsed + (gI cI).slots.size = _
      rw [show (gI cI).slots.size = 20 from arrV_size _ _ _, h3]
      omega
    · show (((gS T cA cI i).pushCell (gI cI)).setCell _ _).heap[x]? = _
      rw [State.heap_setCell_other (Nat.ne_of_gt hx), hlo x (by omega)]
      exact h5 x hx
    · show (((gS T cA cI i).pushCell (gI cI)).setCell _ _).heap[_]? = _
      rw [State.heap_setCell_other (show T.heap.size ≠ T.heap.size + 1 + j by omega)]
      by_cases hl : j < i
      · rw [hlo _ (by omega)]
        exact h6 j hl
      · rw [show T.heap.size + 1 + j = (gS T cA cI i).heap.size by rw [h2]; omega]
        exact State.heap_pushCell_size _ _
section GWP
variable {E : CtlPost} {e : Env}
theorem g_new {S : State} {c c0 : ClassId} {k : Class} {ty : FieldType} {n : Nat} {v : Value} (hk : S.vm.classes[c]? = some k) (hkind : k.kind = .array c0 ty) (hl : n ≤ e.platform.arrayLengthLimit) (hb : n * componentBytes ty ≤ e.platform.maxHeapBytes) (hv : fits ty v = true) (h1 : S.heap.size < e.platform.maxCells) (h2 : S.slotsUsed + n ≤ e.platform.maxSlots) {Q : Addr → Pre} (d : Bool) (acts : List Action) (hq : ∀ acts', Q S.heap.size d acts' (S.pushCell (arrV c n (fun _ => v)))) : wp (Jvm.newArray c n v) Q E e d acts S := by
  have hfit : ∀ (i : Nat) (x : Value), (Array.replicate n v)[i]? = some x → S.fitsSlot c .none i x = true := fun i x hx => by
    have ex : v = x := (Array.getElem?_eq_some_iff.mp hx).2 ▸ (Array.getElem_replicate ..).symm
    rw [← ex]
    simp [State.fitsSlot, State.slotType?, hk, hkind, hv]
  simp only [Jvm.newArray, Jvm.arrayFits, wp_bind', Jvm.W.ask, Jvm.W.ite, wp_pure', Jvm.W.theClass, hk, hkind, Jvm.W.alloc, Jvm.W.stop, Option.some.injEq, exists_eq_left', Array.size_replicate, if_neg (Nat.not_lt.mpr hl), if_neg (Nat.not_lt.mpr hb), if_neg (show ¬ n > e.platform.maxSlots by omega)]
  refine ⟨h1, h2, hfit, ?_⟩
  rw [arrV_new]
  exact hq _
theorem g_loop {fB : Nat → PUnit → Sem (ForInStep PUnit)} {St : Nat → State} (hs : ∀ i, i < 6 → ∀ (Q1 : ForInStep PUnit → Pre) (d : Bool) (acts : List Action), (∀ d' acts', Q1 (ForInStep.yield PUnit.unit) d' acts' (St (i + 1))) → wp (fB i PUnit.unit) Q1 E e d acts (St i)) {Q : PUnit → Pre} (hq : ∀ d' acts', Q PUnit.unit d' acts' (St 6)) : ∀ (n i : Nat), i + n = 6 → ∀ (d : Bool) (acts : List Action), wp (forIn (List.range' i n 1) PUnit.unit fB) Q E e d acts (St i)
  | 0, i, h, d, acts => by
    have e6 : i = 6 := by omega
    subst e6
    simp only [List.range'_zero, List.forIn_nil, wp_pure']
    exact hq _ _
  | n + 1, i, h, d, acts => by
    rw [List.range'_succ, List.forIn_cons, wp_bind']
    exact hs i (by omega) _ d acts fun d' acts' => g_loop hs hq n (i + 1) (by omega) d' acts'
theorem g_make {U : State} {f : JFrame} {cA cI c0 : ClassId} {kA kI : Class} (hA : U.vm.classes[cA]? = some kA) (hAk : kA.kind = .array cI (.array .int)) (hI : U.vm.classes[cI]? = some kI) (hIk : kI.kind = .array c0 .int) (hl : 20 ≤ e.platform.arrayLengthLimit) (hb : 80 ≤ e.platform.maxHeapBytes) (h1 : U.heap.size + 7 ≤ e.platform.maxCells) (h2 : U.slotsUsed + 126 ≤ e.platform.maxSlots) {Q : Addr → Pre} (d : Bool) (acts : List Action) (hq : ∀ d' acts', Q U.heap.size d' acts' ((gS U cA cI 6).setTop f)) : wp (multianewarray.make cA [(6 : Int32), (20 : Int32)]) Q E e d acts (U.setTop f) := by
  have e6 : (6 : Int32).toNatClampNeg = 6 := by decide
  have e20 : (20 : Int32).toNatClampNeg = 20 := by decide
  have n6 : ¬ (6 : Int32) < 0 := by decide
  have n20 : ¬ (20 : Int32) < 0 := by decide
  have z6 : ((6 : Int32) == 0) = false := by decide
  rw [multianewarray.make]
  simp only [wp_bind', Jvm.W.ite, n6, if_false, wp_pure', Jvm.W.theClass, State.vm_setTop, hA, hAk, Option.some.injEq, exists_eq_left', e6]
  refine g_new (S := U.setTop f) (n := 6) (k := kA) hA hAk (by omega) (by show 6 * 4 ≤ _; omega) rfl (by show U.heap.size < _; omega) (by show U.slotsUsed + 6 ≤ _; omega) d acts fun acts1 => ?_
  simp only [z6, Bool.false_eq_true, if_false, wp_bind', wp_pure']
  have z0 : arrV cA 6 (fun _ => Value.null) = gO cA U.heap.size 0 := congrArg (arrV cA 6) (funext fun j => by simp [va_rf])
  rw [Std.Legacy.Range.forIn_eq_forIn_range', z0, State.pushCell_setTop]
  refine g_loop (St := fun i => (gS U cA cI i).setTop f) ?_ ?_ 6 0 rfl d acts1
  · intro i hi Q1 d1 a1 hn
    obtain ⟨g1, g2, g3, g4, -, -⟩ := gS_ok U cA cI i
    have hsz : ((gS U cA cI i).setTop f).heap.size = U.heap.size + 1 + i := g2
    simp only [wp_bind']
    rw [multianewarray.make]
    simp only [wp_bind', Jvm.W.ite, n20, if_false, wp_pure', Jvm.W.theClass, State.vm_setTop, g1, hI, hIk, Option.some.injEq, exists_eq_left', e20]
    refine g_new (S := (gS U cA cI i).setTop f) (n := 20) (k := kI) (by rw [State.vm_setTop, g1]; exact hI) hIk (by omega) (by show 20 * 4 ≤ _; omega) rfl (by rw [hsz]; omega) (by show (gS U cA cI i).slotsUsed + 20 ≤ _; rw [g3]; omega) d1 a1 fun a2 => ?_
    simp only [wp_bind', Jvm.W.writeLoc, wp_pure']
    refine ⟨gO cA U.heap.size i, ?_, (fun q => by cases q), ?_, ?_, ?_⟩
    · show ((gS U cA cI i).pushCell _).heap[U.heap.size]? = _
      rw [State.heap_pushCell_of_lt _ _ (show U.heap.size < (gS U cA cI i).heap.size by rw [g2]; omega)]
      exact g4
    · rw [show (gO cA U.heap.size i).slots.size = 6 from arrV_size _ _ _]
      exact hi
    · show (((gS U cA cI i).setTop f).pushCell (arrV cI 20 (fun _ => defaultValue .int))).fitsSlot cA .none i _ = true
      simp [State.fitsSlot, State.slotType?, g1, hA, hAk, fits]
    · rw [hsz, gO_next]
      exact hn _ _
  · intro d2 a2
    exact hq _ _
end GWP
theorem g_stand {p : Program} {l : Launch} {e : Env} {R : Room} {s : State} {m : MethodId} {args : Array Value} {below : List Frame} {meth : Method} {c : Code} {T : State} {locs : List Loc} {cells slots : Nat} (X : Stand p l e R s m args below meth c T locs cells slots) (cA cI : ClassId) : ∀ i : Nat, Stand p l e R s m args below meth c (gS T cA cI i) locs (cells + 1 + i) (slots + 6 + 20 * i)
  | 0 => by
    have h := X.pushed (gO cA T.heap.size 0)
    rw [show (gO cA T.heap.size 0).slots.size = 6 from arrV_size _ _ _] at h
    exact h
  | i + 1 => by
    obtain ⟨-, g2, -, g4, -, -⟩ := gS_ok T cA cI i
    have h := (g_stand X cA cI i).pushed (gI cI)
    rw [show (gI cI).slots.size = 20 from arrV_size _ _ _] at h
    have hat : ((gS T cA cI i).pushCell (gI cI)).heap[T.heap.size]? = some (gO cA T.heap.size i) := (State.heap_pushCell_of_lt _ _ (show T.heap.size < (gS T cA cI i).heap.size by rw [g2]; omega)).trans g4
    have h3 := (h.stored hat i (.ref (T.heap.size + 1 + i))).dropFresh (fun x hx => by rw [List.mem_singleton.mp hx]; exact X.heapGrown)
    rw [gO_next] at h3
    exact h3
section XGR
variable {p : Program} {l : Launch} {e : Env} {R : Room} {s : State} {m : MethodId} {args : Array Value} {below : List Frame} {meth : Method} {c : Code} {H : Heap} {locs : List Loc} {cells slots : Nat} {Q : State → Prop}
variable {cc : ByteArray} {pc : Nat} {ls : Array Slot} {rest : List Value} {G : XG} {A : Nat → Prop} {a : Nat} {w : XW} {H0 : Heap}
theorem x_mna (hexec : p.tables.exec = Jvm.exec) (hb : c.code = cc) {own : String} {index : Nat} (hown : s.vm.findClass own = some m.cls) (hclink : (Cond.classLink own index "[[I").before args s = true) (hover : xAA s) (harr : (Cond.arrayClass .int).before args s = true) (hK : xK G s) (hH : xH G A H0 H locs w) (hcells : cells + 7 ≤ R.cells) (hslots : slots + 126 ≤ R.slots) (hdg : decode cc pc = .ok (.multianewarray index 2, 4))
    (kk : ∀ (q : Nat) (H1 : Heap), (∀ i, i < 7 → w (q + i) = none) → xH G A H0 H1 locs (xgrid G w q) → W p l e R s m args below meth c H1 locs (cells + 7) (slots + 126) Q (F0 m (pc + 4) ls (.ref q :: rest))) : W p l e R s m args below meth c H locs cells slots Q (F0 m pc ls (.int 20 :: .int 6 :: rest)) := by
  obtain ⟨hA, hS, hM⟩ := hH
  intro T hT Xs
  obtain ⟨q0, cA, kA, hq0, hkA, hkindA, hnA⟩ := hover
  obtain ⟨cI, kI, z, hnI, hkI, hkindI⟩ := Cond.arrayClass_spec harr
  have eq : q0 = G.2 0 := Option.some.inj (hq0.symm.trans (hK.2 0 (G.2 0, .int) rfl).2)
  have ec : cI = G.2 0 := Option.some.inj (hnI.symm.trans (hK.2 0 (G.2 0, .int) rfl).2)
  have ea : cA = G.2 5 := Option.some.inj (hnA.symm.trans (hK.2 5 (G.2 5, .array .int) rfl).2)
  subst eq
  subst ec
  subst ea
  obtain ⟨cL, hnL, hcl⟩ := Cond.classLink_spec hown hclink e.platform (by rw [Xs.admits.platform])
  have el : cL = G.2 5 := Option.some.inj (hnL.symm.trans (hK.2 5 (G.2 5, .array .int) rfl).2)
  subst el
  obtain ⟨hgv, hwv, -⟩ := State.classEntry (e := e) Xs.warmed hcl
  generalize T.vm.noted m.cls index (.cls (G.2 5)) = vm1 at hgv hwv
  obtain ⟨kA1, hkA1, eA1⟩ := hwv.alike.2.2 _ _ hkA
  obtain ⟨kI1, hkI1, eI1⟩ := hwv.alike.2.2 _ _ hkI
  have X1 := Xs.noted hwv
  have X6 := g_stand X1 (G.2 5) (G.2 0) 6
  have hTh : (T.setVm vm1).heap = H := hT
  have hTs : T.heap.size = H.size := by rw [hT]
  obtain ⟨-, hf1, -, f2, hold, hrows⟩ := gS_ok (T.setVm vm1) (G.2 5) (G.2 0) 6
  rw [hTh] at hf1 f2 hold hrows
  have hrow : ∀ j : Nat, j < 6 → (gS (T.setVm vm1) (G.2 5) (G.2 0) 6).heap[H.size + 1 + j]? = some (vp_cell (G.2 0) (20, .inl (fun _ => 0))) := hrows
  have f2 : (gS (T.setVm vm1) (G.2 5) (G.2 0) 6).heap[H.size]? = some (vp_cell (G.2 5) (6, .inr (.inr (.inr (.inr (fun i => if i < 6 then some (H.size + 1 + i) else none)))))) := f2
  have hz : ∀ i : Nat, w (H.size + i) = none := fun i => xM_fresh hM (by omega)
  have hAA : ∀ i : Nat, A (H.size + i) := fun i => hA _ (by have := hS.1; omega)
  have M0 := xM_kept (H1 := (gS (T.setVm vm1) (G.2 5) (G.2 0) 6).heap) hM hold
  have M1 := xM_add (e1 := .inl (G.2 5, 6, .inr (.inr (.inr (.inr (fun i => if i < 6 then some (H.size + 1 + i) else none)))))) M0 (hz 0) (hAA 0) f2
  have M2 := xM_add (e1 := .inl (G.2 0, 20, .inl (fun _ => 0))) M1 (q := H.size + 1) (by simp [va_up, hz]) (hAA 1) (hrow 0 (by decide))
  have M3 := xM_add (e1 := .inl (G.2 0, 20, .inl (fun _ => 0))) M2 (q := H.size + 2) (by simp [va_up, hz]) (hAA 2) (hrow 1 (by decide))
  have M4 := xM_add (e1 := .inl (G.2 0, 20, .inl (fun _ => 0))) M3 (q := H.size + 3) (by simp [va_up, hz]) (hAA 3) (hrow 2 (by decide))
  have M5 := xM_add (e1 := .inl (G.2 0, 20, .inl (fun _ => 0))) M4 (q := H.size + 4) (by simp [va_up, hz]) (hAA 4) (hrow 3 (by decide))
  have M6 := xM_add (e1 := .inl (G.2 0, 20, .inl (fun _ => 0))) M5 (q := H.size + 5) (by simp [va_up, hz]) (hAA 5) (hrow 4 (by decide))
  have M7 := xM_add (e1 := .inl (G.2 0, 20, .inl (fun _ => 0))) M6 (q := H.size + 6) (by simp [va_up, hz]) (hAA 6) (hrow 5 (by decide))
  obtain ⟨t, a1, b1⟩ := kk H.size (gS (T.setVm vm1) (G.2 5) (G.2 0) 6).heap (fun i _ => hz i) ⟨hA, ⟨by rw [hf1]; have := hS.1; omega, fun x h1 h2 => (hold x (Nat.lt_of_lt_of_le h1 hS.1)).trans (hS.2.1 x h1 h2), hS.2.2⟩, M7⟩ (gS (T.setVm vm1) (G.2 5) (G.2 0) 6) rfl X6
  obtain ⟨r1, r2⟩ := Xs.roomAbove hcells hslots
  refine ⟨t, ?_, b1⟩
  have hdc : decode c.code pc = .ok (.multianewarray index 2, 4) := by rw [hb]; exact hdg
  jvm_step Xs.here [hexec, hdc]
  simp only [multianewarray.sem, wp_bind', Jvm.W.resolveClassAt_links (t := T.setTop (F0 m pc ls (.int 20 :: .int 6 :: rest))) (vm' := vm1) (State.method?_setTop (F0 m pc ls (.int 20 :: .int 6 :: rest)) Xs.here.top) hgv]
  rw [Jvm.W.popN, if_neg (by decide)]
  refine ⟨F0 m pc ls (.int 20 :: .int 6 :: rest), State.topJava?_setTop' (s := T.setVm vm1) _ Xs.here.top, [.int 6, .int 20], rest, rfl, rfl, ?_⟩
  simp only [List.mapM_cons, List.mapM_nil, wp_bind', wp_pure']
  have hlim : 20 ≤ e.platform.arrayLengthLimit := by rw [Launch.admits_arrayLengthLimit Xs.admits]; decide
  have hbyt : 80 ≤ e.platform.maxHeapBytes := by rw [Launch.admits_maxHeapBytes Xs.admits]; decide
  have eS : ((T.setTop (F0 m pc ls (.int 20 :: .int 6 :: rest))).setVm vm1).setTop (F0 m pc ls rest) = (T.setVm vm1).setTop (F0 m pc ls rest) := by
    show ((T.setVm vm1).setTop _).setTop _ = _
    rw [State.setTop_setTop]
  rw [eS]
  refine g_make (U := T.setVm vm1) (f := F0 m pc ls rest) (kA := kA1) (kI := kI1) (cI := G.2 0) (c0 := z) hkA1 (by rw [eA1]; exact hkindA) hkI1 (by rw [eI1]; exact hkindI) hlim hbyt r1 r2 _ _ fun d2 acts2 => ?_
  simp only [wp_bind', Jvm.W.mark, Jvm.W.pushRef, State.topJava?_setTop' _ X6.here.top, Option.some.injEq, exists_eq_left', State.setTop_setTop]
  intro acts3
  simp [jvm, X6.here.top]
  rw [hTs]
  exact a1
theorem x_aldA (hexec : p.tables.exec = Jvm.exec) (hb : c.code = cc) (hK : xK G s) (hH : xH G A H0 H locs w) {n : Nat} {f : Nat → Option Nat} (ha : w a = some (.inl (G.2 5, n, .inr (.inr (.inr (.inr f)))))) {i : Int32} (j : Nat) (hi : i = nI j) (hj : j < n) (hn : n < 2 ^ 31) {q : Nat} (hq : f j = some q) (hdg : decode cc pc = .ok (.aaload, 1))
    (kk : W p l e R s m args below meth c H locs cells slots Q (F0 m (pc + 1) ls (.ref q :: rest))) : W p l e R s m args below meth c H locs cells slots Q (F0 m pc ls (.int i :: .ref a :: rest)) := by
  obtain ⟨hA, hS, ws, hP, hD, hm⟩ := hH
  obtain ⟨q0, hq0⟩ := (hm _ _).mpr ha
  have hin : vp_in i n := vI_in hi hj hn
  have hlt : i.toNatClampNeg < n := Nat.not_le.mp fun q => hin (Or.inr q)
  refine W.aald (v := va_rf (f i.toNatClampNeg)) (ty := .array .int) hexec hb (hP q0 _ hq0) ((hK.2 5 (G.2 5, .array .int) rfl).1 n (fun j => va_rf (f j))) rfl (fun q => by cases q) (by show ¬ (i < 0 ∨ (arrV _ _ _).slots.size ≤ _); rw [arrV_size]; exact hin) (by show (arrV _ _ _).slots[_]? = _; rw [arrV_read _ _ hlt]) rfl rfl hdg ?_
  rw [hi, nI_clamp (by omega), hq]
  exact kk
end XGR
end
