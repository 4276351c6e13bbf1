/-! What stands from the start: out of the given condition and the tables. -/
section KXN
def subB : List Cond → List Cond → Bool
  | [], _ => true
  | _ :: _, [] => false
  | a :: r, b :: l => if a = b then subB r l else subB (a :: r) l
theorem subB_ok : ∀ (l e : List Cond), subB e l = true → ∀ w ∈ e, w ∈ l := by
  intro l
  induction l with
  | nil =>
    intro e h w hw
    cases e with
    | nil => cases hw
    | cons a r => simp [subB] at h
  | cons b l ih =>
    intro e h w hw
    cases e with
    | nil => cases hw
    | cons a r =>
      unfold subB at h
      by_cases c : a = b
      · rw [if_pos c] at h
        rcases List.mem_cons.mp hw with rfl | hw
        · rw [c]; exact List.mem_cons_self
        · exact List.mem_cons_of_mem _ (ih r h w hw)
      · rw [if_neg c] at h
        exact List.mem_cons_of_mem _ (ih (a :: r) h w hw)
abbrev tCm (k : Nat) : Term := .static "KeySteward$Command" (kCnm.getD k "") "LKeySteward$Command;"
abbrev tSt (i : Nat) : Term := .string (kTx i).1 (kTx i).2.1
abbrev tVa (i : Nat) : Term := .field (tSt i) "java/lang/String" "value" "[B"
abbrev tAl : Term := .static "KeySteward$Command" "ALL" "[LKeySteward$Command;"
abbrev tSm : Term := .static "KeySteward$1" "$SwitchMap$KeySteward$Command" "[I"
def cmA (k : Nat) : List Cond := [.exactly (tCm k) "KeySteward$Command", .eq (.field (tCm k) "java/lang/Enum" "ordinal" "I") (.int (nI k)), .eq (.field (tCm k) "KeySteward$Command" "text" "Ljava/lang/String;") (tSt (kCmd k).2.2.2.2.1), .eq (.field (tCm k) "KeySteward$Command" "least" "I") (.int (kCmd k).1), .eq (.field (tCm k) "KeySteward$Command" "most" "I") (.int (kCmd k).2.1), .eq (.field (tCm k) "KeySteward$Command" "group" "I") (.int (kCmd k).2.2.1), .eq (.field (tCm k) "KeySteward$Command" "marks" "I") (.int (kCmd k).2.2.2.1)]
def stQa (i : Nat) : List Cond := [.exactly (tSt i) "java/lang/String", .eq (.field (tSt i) "java/lang/String" "coder" "B") (.int 0), .arrayOf (tVa i) .byte, .eq (.length (tVa i)) (.int (Int32.ofNat (kTx i).2.2.2.length))] ++ (List.range (kTx i).2.2.2.length).map (fun j => .eq (.elem (tVa i) (.int (Int32.ofNat j))) (.int ((kTx i).2.2.2.getD j 0)))
def hdA : List Cond := [.eq (.static "java/lang/String" "COMPACT_STRINGS" "Z") (.int 1), .isRef (.static "jdk/internal/util/Preconditions" "SIOOBE_FORMATTER" "Ljava/util/function/BiFunction;"), .arrayOf tAl (.object "KeySteward$Command"), .eq (.length tAl) (.int (Int32.ofNat 105))] ++ ((List.range 105).map (fun j => .eq (.elem tAl (.int (Int32.ofNat j))) (tCm j)) ++ ([.arrayOf tSm .int, .eq (.length tSm) (.int (Int32.ofNat 105))] ++ (List.range 105).map (fun j => .eq (.elem tSm (.int (Int32.ofNat j))) (.int (kCmd j).2.2.2.2.2))))
def cOr : List Nat := [79, 15, 68, 46, 3, 4, 31, 57, 84, 10, 11, 49, 39, 61, 37, 36, 29, 23, 81, 71, 72, 82, 64, 103, 101, 102, 93, 88, 87, 47, 6, 8, 0, 1, 2, 5, 7, 9, 12, 13, 14, 16, 17, 18, 19, 20, 21, 22, 24, 25, 26, 27, 28, 30, 32, 33, 34, 35, 38, 40, 41, 42, 43, 44, 45, 48, 50, 51, 52, 53, 54, 55, 56, 58, 59, 60, 62, 63, 65, 66, 67, 69, 70, 73, 74, 75, 76, 77, 78, 80, 83, 85, 86, 89, 90, 91, 92, 94, 95, 96, 97, 98, 99, 100, 104]
def sOr : List Nat := [126, 127, 128, 129, 130, 0, 1, 2, 3, 131, 132, 136, 137, 170, 171, 173, 174, 175, 176, 177, 172, 178, 168, 138, 167, 179, 180, 181, 183, 184, 182, 169, 139, 140, 141, 142, 143, 144, 145, 146, 147, 148, 149, 150, 151, 152, 153, 154, 155, 156, 157, 158, 159, 160, 161, 165, 162, 163, 164, 166, 16, 17, 134, 135, 20, 133, 18, 19, 5, 9, 10, 11, 6, 7, 8, 4, 12, 13, 14, 15, 100, 36, 89, 67, 24, 25, 52, 78, 105, 31, 32, 70, 60, 82, 58, 57, 50, 44, 102, 92, 93, 103, 85, 124, 122, 123, 114, 109, 108, 68, 27, 29, 21, 22, 23, 26, 28, 30, 33, 34, 35, 37, 38, 39, 40, 41, 42, 43, 45, 46, 47, 48, 49, 51, 53, 54, 55, 56, 59, 61, 62, 63, 64, 65, 66, 69, 71, 72, 73, 74, 75, 76, 77, 79, 80, 81, 83, 84, 86, 87, 88, 90, 91, 94, 95, 96, 97, 98, 99, 101, 104, 106, 107, 110, 111, 112, 113, 115, 116, 117, 118, 119, 120, 121, 125]
theorem nar_sub : subB (hdA ++ (cOr.flatMap cmA ++ sOr.flatMap stQa)) (flatC (Jvm.Cond.and given_1 narrow_1)) = true := by decide +kernel
theorem cOr_all : ∀ k, k < 105 → k ∈ cOr := by decide +kernel
theorem sOr_all : ∀ k, k < 185 → k ∈ sOr := by decide +kernel
def oW : List Cond := [.laysStatic "KeySteward$Command" "ALL" "[LKeySteward$Command;", .laysStatic "KeySteward$1" "$SwitchMap$KeySteward$Command" "[I", .laysStatic "java/lang/String" "COMPACT_STRINGS" "Z", .laysStatic "jdk/internal/util/Preconditions" "SIOOBE_FORMATTER" "Ljava/util/function/BiFunction;", .initialized "KeySteward$Command", .initialized "KeySteward$1", .initialized "java/lang/String", .initialized "jdk/internal/util/Preconditions"]
def wd2 (n : Nat) : Cond := if n < 185 then .stringRef (kTx n).1 (kTx n).2.1 (kTx n).2.2.1 else if n < 1105 then .laysStatic "KeySteward$Command" (kCnm.getD (n - 1000) "") "LKeySteward$Command;" else oW.getD (n - 2000) (.initialized "")
def wOr : List Nat := [2006, 2007, 2004, 2005, 126, 127, 128, 129, 130, 2002, 2003, 2000, 0, 1, 2, 2001, 3, 131, 132, 136, 137, 1079, 1015, 170, 171, 173, 174, 175, 176, 177, 172, 178, 168, 138, 167, 1068, 1046, 179, 180, 181, 183, 184, 1003, 1004, 1031, 182, 169, 139, 140, 141, 142, 143, 144, 1057, 145, 1084, 1010, 1011, 1049, 1039, 1061, 1037, 146, 147, 148, 149, 150, 1036, 151, 152, 153, 1029, 1023, 1081, 1071, 1072, 1082, 1064, 154, 155, 156, 157, 158, 159, 160, 1103, 1101, 161, 1102, 165, 162, 163, 164, 1093, 166, 16, 17, 134, 135, 20, 1088, 133, 1087, 1047, 18, 1006, 19, 5, 9, 10, 11, 6, 7, 8, 4, 1008, 12, 13, 14, 15, 1000, 1001, 1002, 1005, 1007, 1009, 1012, 1013, 1014, 1016, 1017, 1018, 1019, 1020, 1021, 1022, 1024, 1025, 1026, 1027, 1028, 1030, 1032, 1033, 1034, 1035, 1038, 1040, 1041, 1042, 1043, 1044, 1045, 1048, 1050, 1051, 1052, 1053, 1054, 1055, 1056, 1058, 1059, 1060, 1062, 1063, 1065, 1066, 1067, 1069, 1070, 1073, 1074, 1075, 1076, 1077, 1078, 1080, 1083, 1085, 1086, 1089, 1090, 1091, 1092, 1094, 1095, 1096, 1097, 1098, 1099, 1100, 1104, 100, 36, 89, 67, 24, 25, 52, 78, 105, 31, 32, 70, 60, 82, 58, 57, 50, 44, 102, 92, 93, 103, 85, 124, 122, 123, 114, 109, 108, 68, 27, 29, 21, 22, 23, 26, 28, 30, 33, 34, 35, 37, 38, 39, 40, 41, 42, 43, 45, 46, 47, 48, 49, 51, 53, 54, 55, 56, 59, 61, 62, 63, 64, 65, 66, 69, 71, 72, 73, 74, 75, 76, 77, 79, 80, 81, 83, 84, 86, 87, 88, 90, 91, 94, 95, 96, 97, 98, 99, 101, 104, 106, 107, 110, 111, 112, 113, 115, 116, 117, 118, 119, 120, 121, 125]
theorem len_lt : ∀ i, i < 185 → (kTx i).2.2.2.length < 2 ^ 31 := by decide +kernel
theorem wOr_sub : subB (wOr.map wd2) tables_1 = true := by decide +kernel
theorem wOr_all : (∀ k, k < 185 → k ∈ wOr) ∧ (∀ k, k < 105 → (1000 + k) ∈ wOr) ∧ ∀ k, k < 8 → (2000 + k) ∈ wOr := by decide +kernel

theorem kX_start {s : State} {b : Nat} (hts : ∀ w ∈ lw_tbl, w.before #[Value.ref b] s = true) (hgv : (Jvm.Cond.and given_1 narrow_1).before #[Value.ref b] s = true) : ∃ hiA : Nat → Nat, kX hiA (fun q => s.heap.size ≤ q) s s.heap := by
  have hn : ∀ w ∈ hdA ++ (cOr.flatMap cmA ++ sOr.flatMap stQa), w.before #[Value.ref b] s = true := fun w hw => flat_of_before _ hgv w (subB_ok _ _ nar_sub w hw)
  have hH : ∀ w ∈ hdA, w.before #[Value.ref b] s = true := fun w hw => hn w (List.mem_append_left _ hw)
  have hC : ∀ k, k < 105 → ∀ w ∈ cmA k, w.before #[Value.ref b] s = true := fun k hk w hw => hn w (List.mem_append_right _ (List.mem_append_left _ (List.mem_flatMap.mpr ⟨k, cOr_all k hk, hw⟩)))
  have hT : ∀ k, k < 185 → ∀ w ∈ stQa k, w.before #[Value.ref b] s = true := fun k hk w hw => hn w (List.mem_append_right _ (List.mem_append_right _ (List.mem_flatMap.mpr ⟨k, sOr_all k hk, hw⟩)))
  have hw2 : ∀ n ∈ wOr, (wd2 n).before #[Value.ref b] s = true := fun n hn => hts _ (tl_in (subB_ok _ _ wOr_sub _ (List.mem_map_of_mem hn)))
  have hA : ∀ a : Nat, a < s.heap.size → ¬ (fun q => s.heap.size ≤ q) a := fun a h => Nat.not_le.mpr h
  have hsr : ∀ i, i < 185 → (Cond.stringRef (kTx i).1 (kTx i).2.1 (kTx i).2.2.1).before #[Value.ref b] s = true := fun i hi => by
    have := hw2 i (wOr_all.1 i hi)
    unfold wd2 at this; rw [if_pos hi] at this; exact this
  have hls : ∀ k, k < 105 → (Cond.laysStatic "KeySteward$Command" (kCnm.getD k "") "LKeySteward$Command;").before #[Value.ref b] s = true := fun k hk => by
    have := hw2 (1000 + k) (wOr_all.2.1 k hk)
    unfold wd2 at this; rw [if_neg (by omega), if_pos (by omega), Nat.add_sub_cancel_left] at this; exact this
  have ho : ∀ k, k < 8 → (oW.getD k (.initialized "")).before #[Value.ref b] s = true := fun k hk => by
    have := hw2 (2000 + k) (wOr_all.2.2 k hk)
    unfold wd2 at this; rw [if_neg (by omega), if_neg (by omega), Nat.add_sub_cancel_left] at this; exact this
  have iC : (Cond.initialized "KeySteward$Command").before #[Value.ref b] s = true := ho 4 (by decide)
  -- the texts
  have h0 : ∀ i : Nat, ∃ q : Nat × Nat, i < 185 → (tSt i).eval #[Value.ref b] s none [] s = some (.ref q.1) ∧ va_O "java/lang/String" q.1 (fun q => s.heap.size ≤ q) s s.heap ∧ va_OF "java/lang/String" "coder" "B" (.int 0) q.1 (fun q => s.heap.size ≤ q) s s.heap ∧ va_OF "java/lang/String" "value" "[B" (.ref q.2) q.1 (fun q => s.heap.size ≤ q) s s.heap ∧ va_T .byte q.2 (kTx i).2.2.2.length (fun j => .int ((kTx i).2.2.2.getD j 0)) (fun q => s.heap.size ≤ q) s s.heap := by
    intro i
    by_cases hi : i < 185
    · have hT := hT i hi
      have e1 : (Cond.exactly (tSt i) "java/lang/String").before #[Value.ref b] s = true := hT _ (by unfold stQa; exact List.mem_append_left _ (List.mem_of_getElem? (i := 0) rfl))
      have e2 : (Cond.eq (.field (tSt i) "java/lang/String" "coder" "B") (.int 0)).before #[Value.ref b] s = true := hT _ (by unfold stQa; exact List.mem_append_left _ (List.mem_of_getElem? (i := 1) rfl))
      have e3 : (Cond.arrayOf (tVa i) .byte).before #[Value.ref b] s = true := hT _ (by unfold stQa; exact List.mem_append_left _ (List.mem_of_getElem? (i := 2) rfl))
      have e4 : (Cond.eq (.length (tVa i)) (.int (Int32.ofNat (kTx i).2.2.2.length))).before #[Value.ref b] s = true := hT _ (by unfold stQa; exact List.mem_append_left _ (List.mem_of_getElem? (i := 3) rfl))
      have e5 : ∀ j, j < (kTx i).2.2.2.length → (Cond.eq (.elem (tVa i) (.int (Int32.ofNat j))) (.int ((kTx i).2.2.2.getD j 0))).before #[Value.ref b] s = true := fun j hj => hT _ (by unfold stQa; exact List.mem_append_right _ (List.mem_map.mpr ⟨j, List.mem_range.mpr hj, rfl⟩))
      obtain ⟨a, c, cA, kA, q1, q2, q3, q4, q5, q6, -⟩ := Cond.exactly_spec (args := #[Value.ref b]) (first := s) (o := none) (s := s) (idx := []) (t := tSt i) (cls := "java/lang/String") e1
      obtain ⟨t, ht, hT2⟩ := va_Tof (f := fun j => .int ((kTx i).2.2.2.getD j 0)) (A := fun q => s.heap.size ≤ q) (len_lt i hi) e3 (va_eqt e4) (fun j hj => va_eqt (e5 j hj)) hA
      exact ⟨(a, t), fun _ => ⟨q1, ⟨cA, q3, q5, by rw [q6]; exact q2, hA a (Array.getElem?_eq_some_iff.mp q3).1⟩, vk_OFof q1 (va_eqt e2) hA, vk_OFof q1 ht hA, hT2⟩⟩
    · exact ⟨(0, 0), fun h => absurd h hi⟩
  obtain ⟨aS, haS⟩ := Classical.axiomOfChoice h0
  have h1 : ∀ k : Nat, ∃ t : Nat, k < 105 → (tCm k).eval #[Value.ref b] s none [] s = some (.ref t) ∧ va_O "KeySteward$Command" t (fun q => s.heap.size ≤ q) s s.heap := by
    intro k
    by_cases hk : k < 105
    · have e1 : (Cond.exactly (tCm k) "KeySteward$Command").before #[Value.ref b] s = true := hC k hk _ (List.mem_of_getElem? (i := 0) rfl)
      obtain ⟨a, c, cA, kA, q1, q2, q3, q4, q5, q6, -⟩ := Cond.exactly_spec (args := #[Value.ref b]) (first := s) (o := none) (s := s) (idx := []) (t := tCm k) (cls := "KeySteward$Command") e1
      exact ⟨a, fun _ => ⟨q1, cA, q3, q5, by rw [q6]; exact q2, hA a (Array.getElem?_eq_some_iff.mp q3).1⟩⟩
    · exact ⟨0, fun h => absurd h hk⟩
  obtain ⟨aC, haC⟩ := Classical.axiomOfChoice h1
  have fI : ∀ k, k < 105 → ∀ o n (z : Int32), (Cond.eq (.field (tCm k) o n "I") (.int z)).before #[Value.ref b] s = true → va_OF o n "I" (.int z) (aC k) (fun q => s.heap.size ≤ q) s s.heap := fun k hk o n z h => vk_OFof (haC k hk).1 (va_eqt h) hA
  have aE : ∀ j, j < 105 → (Cond.eq (.elem tAl (.int (Int32.ofNat j))) (tCm j)).before #[Value.ref b] s = true := fun j hj => hH _ (by unfold hdA; exact List.mem_append_right _ (List.mem_append_left _ (List.mem_map.mpr ⟨j, List.mem_range.mpr hj, rfl⟩)))
  have sE : ∀ j, j < 105 → (Cond.eq (.elem tSm (.int (Int32.ofNat j))) (.int (kCmd j).2.2.2.2.2)).before #[Value.ref b] s = true := fun j hj => hH _ (by unfold hdA; exact List.mem_append_right _ (List.mem_append_right _ (List.mem_append_right _ (List.mem_map.mpr ⟨j, List.mem_range.mpr hj, rfl⟩))))
  obtain ⟨tA, htA, hTA⟩ := va_Tof (tm := tAl) (ty := .object "KeySteward$Command") (N := 105) (f := fun j => .ref (aC j)) (A := fun q => s.heap.size ≤ q) (by decide) (hH _ (List.mem_append_left _ (List.mem_of_getElem? (i := 2) rfl))) (va_eqt (hH _ (List.mem_append_left _ (List.mem_of_getElem? (i := 3) rfl)))) (fun j hj => va_eqv (aE j hj) (haC j hj).1) hA
  obtain ⟨tM, htM, hTM⟩ := va_Tof (tm := tSm) (ty := .int) (N := 105) (f := fun j => .int (kCmd j).2.2.2.2.2) (A := fun q => s.heap.size ≤ q) (by decide) (hH _ (by unfold hdA; exact List.mem_append_right _ (List.mem_append_right _ (List.mem_append_left _ (List.mem_of_getElem? (i := 0) rfl))))) (va_eqt (hH _ (by unfold hdA; exact List.mem_append_right _ (List.mem_append_right _ (List.mem_append_left _ (List.mem_of_getElem? (i := 1) rfl)))))) (fun j hj => va_eqt (sE j hj)) hA
  refine ⟨fun h => if h < 2000000 then aC (h - 1000000) else if h < 3000000 then (aS (h - 2000000)).1 else if h < 4000000 then (aS (h - 3000000)).2 else if h = 4000000 then tA else tM, ?_⟩
  generalize hd : (fun h => if h < 2000000 then aC (h - 1000000) else if h < 3000000 then (aS (h - 2000000)).1 else if h < 4000000 then (aS (h - 3000000)).2 else if h = 4000000 then tA else tM) = hiA
  have c1 : ∀ k, k < 105 → hiA (1000000 + k) = aC k := fun k hk => by subst hd; show (if 1000000 + k < 2000000 then aC (1000000 + k - 1000000) else _) = _; rw [if_pos (by omega), Nat.add_sub_cancel_left]
  have c2 : ∀ i, i < 185 → hiA (2000000 + i) = (aS i).1 := fun k hk => by subst hd; show (if 2000000 + k < 2000000 then _ else if 2000000 + k < 3000000 then (aS (2000000 + k - 2000000)).1 else _) = _; rw [if_neg (by omega), if_pos (by omega), Nat.add_sub_cancel_left]
  have c3 : ∀ i, i < 185 → hiA (3000000 + i) = (aS i).2 := fun k hk => by subst hd; show (if 3000000 + k < 2000000 then _ else if 3000000 + k < 3000000 then _ else if 3000000 + k < 4000000 then (aS (3000000 + k - 3000000)).2 else _) = _; rw [if_neg (by omega), if_neg (by omega), if_pos (by omega), Nat.add_sub_cancel_left]
  have c4 : hiA 4000000 = tA := by subst hd; rfl
  have c5 : hiA 4000001 = tM := by subst hd; rfl
  have tl : ∀ k, k < 105 → (kCmd k).2.2.2.2.1 < 185 := by decide +kernel
  refine ⟨fun k hk => ?_, fun k j hk hj e => ?_, fun i hi => ?_, ?_, ?_, ?_, ?_⟩
  · have hc := hC k hk
    rw [c1 k hk, c2 _ (tl k hk)]
    exact ⟨va_Zref (hls k hk) iC (haC k hk).1 hA, (haC k hk).2, fI k hk _ _ _ (hc _ (List.mem_of_getElem? (i := 1) rfl)), fI k hk _ _ _ (hc _ (List.mem_of_getElem? (i := 3) rfl)), fI k hk _ _ _ (hc _ (List.mem_of_getElem? (i := 4) rfl)), fI k hk _ _ _ (hc _ (List.mem_of_getElem? (i := 5) rfl)), fI k hk _ _ _ (hc _ (List.mem_of_getElem? (i := 6) rfl)), vk_OFof (haC k hk).1 (va_eqv (hc _ (List.mem_of_getElem? (i := 2) rfl)) (haS _ (tl k hk)).1) hA⟩
  · rw [c1 k hk, c1 j hj] at e
    have g1 := va_eqt (hC k hk _ (List.mem_of_getElem? (i := 1) rfl))
    have g2 := va_eqt (hC j hj _ (List.mem_of_getElem? (i := 1) rfl))
    rw [va_fe (haC k hk).1] at g1
    rw [va_fe (haC j hj).1, ← e, g1] at g2
    have g3 : nI k = nI j := by injection g2 with g2; injection g2
    have g4 : (nI k).toInt = (nI j).toInt := by rw [g3]
    rw [nI_toInt (by omega), nI_toInt (by omega)] at g4
    omega
  · rw [c2 i hi, c3 i hi]
    obtain ⟨g1, g2, g3, g4, g5⟩ := haS i hi
    exact ⟨g2, g3, g4, g5, vk_R.of (A := #[Value.ref b]) (hsr i hi) g1⟩
  · rw [c4]
    refine ⟨va_Zref (ho 0 (by decide)) iC htA hA, ?_⟩
    obtain ⟨cell, a1, a2, a3, a4, a5, a6, a7⟩ := hTA
    exact ⟨cell, a1, a2, a3, a4, a5, fun j hj => by show cell.slots[j]? = some (Value.ref (hiA (1000000 + j))); rw [c1 j hj]; exact a6 j hj, a7⟩
  · rw [c5]
    exact ⟨va_Zref (ho 1 (by decide)) (ho 5 (by decide)) htM hA, hTM⟩
  · exact va_Zof (ho 2 (by decide)) (ho 6 (by decide)) (va_eqt (hH _ (List.mem_append_left _ (List.mem_of_getElem? (i := 0) rfl)))) hA
  · exact va_Zqof (ho 3 (by decide)) (ho 7 (by decide)) (hH _ (List.mem_append_left _ (List.mem_of_getElem? (i := 1) rfl))) hA
end KXN
