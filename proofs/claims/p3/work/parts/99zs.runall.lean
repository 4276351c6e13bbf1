/-! The tables of the commands; run of any command. -/
section RUNALL
variable {Y : Nat → MethodName × ByteArray} {d : Nat}
def cA : List Int64 := [0, 4670804, 5457236, 78363092075852, 78363093058900, 357645438552, 357645436248, 88318575658328, 1296516436, 1297302868, 85020040777304, 71813199908420, 91621623088462, 5135603662345619269, 6000294790800754501, 1229865810, 1145389906, 80600485741145, 75064272896601, 91557231479124, 78363091945812, 4776441527873654356, 4474188, 76245489636435, 1415139397, 90457619123525, 5928230526879354456, 1262836051, 75051655846469, 5065517497067850828, 76245606421061, 22594243743273541, 4996832062410670420, 5784126398278026561, 22594218023801684, 5526604, 1347703884, 327765283656, 353535087432, 83907912616024, 90504982382680, 1280331600, 1380994896, 1280066894, 83916166678341, 83877729420632, 1280525652, 21472698983338580, 1280460109, 327832193357, 327714559557, 5931327915543254355, 1213416788, 79522482638424, 1212630356, 310534161748, 1212433740, 20342443812803667, 1212958030, 20357819946255694, 310500481363, 310684765267, 20344561415048268, 20346798808908377, 1396786244, 1397900621, 6001419569788174917, 6002534500482239810, 357610639940, 6002530076481376851, 357779330629, 91574311863634, 91625850752846, 357627938374, 6001414102295139156, 6004791754938536788, 6000001169740747855, 1397772112, 1514226756, 1515341133, 99313658057285, 25413348389700185, 387675411012, 387927068235, 6508340648553303627, 99309329467205, 6508340648553303623, 6508336215962763865, 6508340648553303623, 99245140299348, 6508340609898597959, 6508340609898597959, 25421049483839822, 25421049483837784, 1346981447, 1162037327, 1364543828, 374758196040, 24011509685568328, 332143547465, 1163412803, 19220920375792196, 6004778603547609410, 6146942167057384274, 22611741372928840, 1414090053]
def cB : List Int64 := [0, 0, 0, 0, 0, 0, 0, 0, 0, 0, 0, 0, 0, 0, 0, 0, 0, 0, 0, 0, 0, 0, 0, 0, 0, 0, 0, 0, 0, 0, 0, 0, 0, 84, 0, 0, 0, 0, 0, 0, 0, 0, 0, 0, 0, 0, 0, 0, 0, 0, 0, 72, 0, 0, 0, 0, 0, 0, 0, 0, 0, 0, 0, 0, 0, 0, 82, 17746, 0, 0, 0, 0, 0, 0, 5198405, 5198405, 21061, 0, 0, 0, 0, 0, 0, 0, 0, 0, 69, 357611557445, 4990649551226360389, 0, 19494724792569419, 4990649551226360389, 0, 0, 0, 0, 0, 0, 0, 0, 0, 0, 69, 4801093, 0, 0]
def cLo : List Nat := [0, 1, 2, 1, 2, 2, 3, 3, 1, 2, 2, 2, 1, 3, 3, 1, 1, 2, 2, 3, 2, 1, 1, 1, 1, 2, 2, 1, 0, 0, 2, 2, 2, 2, 1, 1, 1, 2, 2, 2, 2, 1, 1, 1, 3, 2, 3, 4, 3, 3, 4, 2, 3, 3, 2, 2, 2, 2, 1, 2, 1, 1, 1, 3, 2, 2, 2, 2, 1, 1, 3, 1, 1, 1, 2, 2, 2, 1, 3, 2, 2, 3, 1, 2, 2, 3, 3, 3, 3, 3, 3, 3, 1, 1, 0, 1, 0, 1, 0, 0, 0, 0, 1, 0, 2, 0]
/-- one more than the most, 0 where there is no most -/
def cHi : List Nat := [0, 2, 0, 2, 3, 3, 4, 4, 0, 0, 0, 3, 2, 4, 4, 2, 2, 3, 3, 4, 3, 4, 0, 0, 2, 3, 3, 2, 1, 1, 3, 3, 3, 3, 2, 2, 2, 0, 0, 0, 0, 3, 3, 2, 4, 3, 4, 5, 4, 4, 5, 3, 0, 4, 3, 0, 0, 3, 2, 3, 2, 2, 2, 4, 0, 0, 3, 0, 2, 2, 4, 0, 0, 0, 0, 0, 0, 2, 0, 0, 3, 4, 2, 3, 3, 0, 0, 0, 0, 4, 4, 4, 3, 3, 2, 2, 1, 0, 1, 1, 1, 1, 0, 0, 3, 1]
def cHv : List Bool := [false, false, true, false, true, true, true, true, false, true, true, true, false, false, true, true, true, true, true, true, false, false, false, false, false, false, false, false, false, false, false, false, false, false, false, false, false, true, true, true, true, false, false, false, false, false, true, true, false, false, true, true, true, true, false, false, false, false, false, false, false, false, false, true, true, false, false, false, false, false, false, false, false, false, true, true, true, false, true, false, false, true, false, false, false, false, false, false, false, false, false, false, false, false, false, false, false, false, false, false, false, false, false, false, false, false]
def hiI (n : Nat) : Int32 := if n = 0 then -1 else nI (n - 1)
/-- the rows of the commands' tables -/
def TB (σ : mjS) : Prop := ∀ i, 1 ≤ i → i ≤ 105 → σ.2.2.2 r_nameA i = cA.getD i 0 ∧ σ.2.2.2 r_nameB i = cB.getD i 0 ∧ σ.2.2.1 r_least i = nI (cLo.getD i 0) ∧ σ.2.2.1 r_most i = hiI (cHi.getD i 0) ∧ ((¬ σ.2.2.1 r_heavy i = 0) ↔ cHv.getD i false = true)
abbrev tbH : List Nat := [r_nameA, r_nameB, r_least, r_most, r_heavy]
theorem TB.fr {σ u : mjS} {fs hs : List Nat} (h : TB σ) (f : Fr fs hs σ u) (h2 : ∀ k ∈ tbH, k ∉ hs) : TB u := by
  intro i a b
  rw [(f.2.2 _ (h2 r_nameA (by decide))).2, (f.2.2 _ (h2 r_nameB (by decide))).2, (f.2.2 _ (h2 r_least (by decide))).1, (f.2.2 _ (h2 r_most (by decide))).1, (f.2.2 _ (h2 r_heavy (by decide))).1]
  exact h i a b
/-- the command of a word -/
def cmC (w : List Int32) : Nat := cmF (fun i => cA.getD i 0) (fun i => cB.getD i 0) w
theorem lkF_congr {A B A' B' : Nat → Int64} {p : Int64 × Int64} : ∀ (m i : Nat), (∀ k, i ≤ k → k < i + m → A k = A' k ∧ B k = B' k) → lkF A B p m i = lkF A' B' p m i := by
  intro m
  induction m with
  | zero => intro i _; rfl
  | succ m ih =>
    intro i h
    show (if A i = p.1 ∧ B i = p.2 then i else lkF A B p m (i + 1)) = if A' i = p.1 ∧ B' i = p.2 then i else lkF A' B' p m (i + 1)
    rw [(h i (Nat.le_refl _) (by omega)).1, (h i (Nat.le_refl _) (by omega)).2, ih (i + 1) (fun k a b => h k (by omega) (by omega))]
theorem TB.cm {σ : mjS} (h : TB σ) (w : List Int32) : cmF (σ.2.2.2 r_nameA) (σ.2.2.2 r_nameB) w = cmC w := by
  unfold cmC cmF
  by_cases c : 16 < w.length
  · rw [if_pos c, if_pos c]
  · rw [if_neg c, if_neg c]
    cases pkL w 0 (0, 0) with
    | none => rfl
    | some p => exact lkF_congr 105 1 (fun k a b => ⟨(h k (by omega) (by omega)).1, (h k (by omega) (by omega)).2.1⟩)
theorem cmC_le (w : List Int32) : cmC w ≤ 105 := by
  unfold cmC cmF
  by_cases c : 16 < w.length
  · rw [if_pos c]; exact Nat.zero_le _
  · rw [if_neg c]
    cases pkL w 0 (0, 0) with
    | none => exact Nat.zero_le _
    | some p =>
      show lkF _ _ p 105 1 ≤ 105
      have : ∀ m i, lkF (fun i => cA.getD i 0) (fun i => cB.getD i 0) p m i < i + m ∨ lkF (fun i => cA.getD i 0) (fun i => cB.getD i 0) p m i = 0 := by
        intro m
        induction m with
        | zero => intro i; exact Or.inr rfl
        | succ m ih =>
          intro i
          show (if _ then i else lkF _ _ p m (i + 1)) < _ ∨ (if _ then i else lkF _ _ p m (i + 1)) = 0
          split
          · exact Or.inl (by omega)
          · rcases ih (i + 1) with h | h
            · exact Or.inl (by omega)
            · exact Or.inr h
      rcases this 105 1 with h | h <;> omega
def afX (i n : Nat) : Bool := afB (nI (cLo.getD i 0)) (hiI (cHi.getD i 0)) i n
theorem TB.af {σ : mjS} (h : TB σ) {i : Nat} (h1 : 1 ≤ i) (h2 : i ≤ 105) (n : Nat) : afB (σ.2.2.1 r_least i) (σ.2.2.1 r_most i) i n = afX i n := by
  unfold afX; rw [(h i h1 h2).2.2.1, (h i h1 h2).2.2.2.1]
theorem cLo_le : ∀ i, i < 106 → cLo.getD i 0 ≤ 10 ∧ cHi.getD i 0 ≤ 10 := by decide +kernel
theorem af_lo {i n : Nat} (hi : i < 106) (hn : n ≤ 1024) (h : afX i n = true) : cLo.getD i 0 ≤ n ∧ (cHi.getD i 0 = 0 ∨ n < cHi.getD i 0) ∧ afC i n = true := by
  have hl := cLo_le i hi
  unfold afX afB at h
  by_cases c : nI n < nI (cLo.getD i 0) ∨ ((0 : Int32) ≤ hiI (cHi.getD i 0) ∧ hiI (cHi.getD i 0) < nI n)
  · rw [if_pos c] at h; cases h
  · rw [if_neg c] at h
    refine ⟨Nat.le_of_not_lt (fun z => c (Or.inl (Int32.not_le.mp (nI_ge z (by omega))))), ?_, h⟩
    by_cases z : cHi.getD i 0 = 0
    · exact Or.inl z
    · refine Or.inr (Nat.lt_of_not_le (fun y => c (Or.inr ?_)))
      unfold hiI; rw [if_neg z]
      exact ⟨nI_le (a := 0) (Nat.zero_le _) (by omega), Int32.not_le.mp (nI_ge (by omega) (by omega))⟩
abbrev rnI : List Nat := [1, 2, 3, 4, 5, 6, 7, 8, 9, 10, 11, 12, 13, 14, 15, 16, 17, 18, 19, 20, 21, 22, 23, 24, 25, 26, 27, 28, 29, 30, 31, 32, 33, 34, 35, 36, 37, 38, 39, 40, 41, 42, 43, 44, 45, 46, 47, 48, 49, 50, 51, 52, 53, 54, 55, 56, 57, 58, 59, 60, 61, 62, 63, 64, 65, 66, 67, 68, 69, 70, 71, 72, 73, 74, 75, 76, 77, 78, 79, 80, 81, 82, 83, 84, 85, 86, 87, 88, 89, 90, 91, 92, 93, 94, 95, 105]
theorem rn_all {σ : mjS} {ws : Req} {ks : List KR} {l : List Int32} (h : Wd σ ws ks l) (ty : mjTY σ) (i : Nat) (hi : i ∈ rnI) (B : BD σ i ws ks l) (af : afX i (ws.length - 1) = true) (hw : 1 ≤ ws.length) {x : Int32} (ex : x = nI i) : mjY mjPP (mjQQ Y) (d + 9) 155 0 (mjL0 2 [.ref 0, .int x]) [] σ (rnK σ ws ks l (rnE σ ks i ws)) := by
  have h1024 := h.2.1.2.1
  have hi6 : i < 106 := (by decide : ∀ i ∈ rnI, i < 106) i hi
  obtain ⟨q1, q2, q3⟩ := af_lo hi6 (by omega) af
  rw [ex]
  by_cases c : i = 1
  · subst c
    have q0 : 1 ≤ ws.length - 1 := q1
    exact rn_1 h ty B (by omega)
  have hi := (List.mem_cons.mp hi).resolve_left c; clear c
  by_cases c : i = 2
  · subst c
    have q0 : 2 ≤ ws.length - 1 := q1
    exact rn_2 h ty B (by omega)
  have hi := (List.mem_cons.mp hi).resolve_left c; clear c
  by_cases c : i = 3
  · subst c
    have q0 : 1 ≤ ws.length - 1 := q1
    exact rn_3 h ty B (by omega)
  have hi := (List.mem_cons.mp hi).resolve_left c; clear c
  by_cases c : i = 4
  · subst c
    have q0 : 2 ≤ ws.length - 1 := q1
    exact rn_4 h ty B (by omega)
  have hi := (List.mem_cons.mp hi).resolve_left c; clear c
  by_cases c : i = 5
  · subst c
    have q0 : 2 ≤ ws.length - 1 := q1
    exact rn_5 h ty B (by omega)
  have hi := (List.mem_cons.mp hi).resolve_left c; clear c
  by_cases c : i = 6
  · subst c
    have q0 : 3 ≤ ws.length - 1 := q1
    exact rn_6 h ty B (by omega)
  have hi := (List.mem_cons.mp hi).resolve_left c; clear c
  by_cases c : i = 7
  · subst c
    have q0 : 3 ≤ ws.length - 1 := q1
    exact rn_7 h ty B (by omega)
  have hi := (List.mem_cons.mp hi).resolve_left c; clear c
  by_cases c : i = 8
  · subst c
    have q0 : 1 ≤ ws.length - 1 := q1
    exact rn_8 h ty B (by omega)
  have hi := (List.mem_cons.mp hi).resolve_left c; clear c
  by_cases c : i = 9
  · subst c
    have q0 : 2 ≤ ws.length - 1 := q1
    exact rn_9 h ty B (by omega) ((ws.length - 1) / 2) (by have q4 : decide ((ws.length - 1) % 2 = 0) = true := q3; have := of_decide_eq_true q4; omega)
  have hi := (List.mem_cons.mp hi).resolve_left c; clear c
  by_cases c : i = 10
  · subst c
    have q0 : 2 ≤ ws.length - 1 := q1
    exact rn_10 h ty B (by omega) ((ws.length - 1) / 2) (by have q4 : decide ((ws.length - 1) % 2 = 0) = true := q3; have := of_decide_eq_true q4; omega)
  have hi := (List.mem_cons.mp hi).resolve_left c; clear c
  by_cases c : i = 11
  · subst c
    have q0 : 2 ≤ ws.length - 1 := q1
    exact rn_11 h ty B (by omega)
  have hi := (List.mem_cons.mp hi).resolve_left c; clear c
  by_cases c : i = 12
  · subst c
    have q0 : 1 ≤ ws.length - 1 := q1
    exact rn_12 h ty B (by omega)
  have hi := (List.mem_cons.mp hi).resolve_left c; clear c
  by_cases c : i = 13
  · subst c
    have q0 : 3 ≤ ws.length - 1 := q1
    exact rn_13 h ty B (by omega)
  have hi := (List.mem_cons.mp hi).resolve_left c; clear c
  by_cases c : i = 14
  · subst c
    have q0 : 3 ≤ ws.length - 1 := q1
    exact rn_14 h ty B (by omega)
  have hi := (List.mem_cons.mp hi).resolve_left c; clear c
  by_cases c : i = 15
  · subst c
    have q0 : 1 ≤ ws.length - 1 := q1
    exact rn_15 h ty B (by omega)
  have hi := (List.mem_cons.mp hi).resolve_left c; clear c
  by_cases c : i = 16
  · subst c
    have q0 : 1 ≤ ws.length - 1 := q1
    exact rn_16 h ty B (by omega)
  have hi := (List.mem_cons.mp hi).resolve_left c; clear c
  by_cases c : i = 17
  · subst c
    have q0 : 2 ≤ ws.length - 1 := q1
    exact rn_17 h ty B (by omega)
  have hi := (List.mem_cons.mp hi).resolve_left c; clear c
  by_cases c : i = 18
  · subst c
    have q0 : 2 ≤ ws.length - 1 := q1
    exact rn_18 h ty B (by omega)
  have hi := (List.mem_cons.mp hi).resolve_left c; clear c
  by_cases c : i = 19
  · subst c
    have q0 : 3 ≤ ws.length - 1 := q1
    exact rn_19 h ty B (by omega)
  have hi := (List.mem_cons.mp hi).resolve_left c; clear c
  by_cases c : i = 20
  · subst c
    have q0 : 2 ≤ ws.length - 1 := q1
    exact rn_20 h ty B (by omega)
  have hi := (List.mem_cons.mp hi).resolve_left c; clear c
  by_cases c : i = 21
  · subst c
    have q0 : 1 ≤ ws.length - 1 := q1
    exact rn_21 h ty B (by omega)
  have hi := (List.mem_cons.mp hi).resolve_left c; clear c
  by_cases c : i = 22
  · subst c
    have q0 : 1 ≤ ws.length - 1 := q1
    exact rn_22 h ty B (by omega)
  have hi := (List.mem_cons.mp hi).resolve_left c; clear c
  by_cases c : i = 23
  · subst c
    have q0 : 1 ≤ ws.length - 1 := q1
    exact rn_23 h ty B (by omega)
  have hi := (List.mem_cons.mp hi).resolve_left c; clear c
  by_cases c : i = 24
  · subst c
    have q0 : 1 ≤ ws.length - 1 := q1
    exact rn_24 h ty B (by omega)
  have hi := (List.mem_cons.mp hi).resolve_left c; clear c
  by_cases c : i = 25
  · subst c
    have q0 : 2 ≤ ws.length - 1 := q1
    exact rn_25 h ty B (by omega)
  have hi := (List.mem_cons.mp hi).resolve_left c; clear c
  by_cases c : i = 26
  · subst c
    have q0 : 2 ≤ ws.length - 1 := q1
    exact rn_26 h ty B (by omega)
  have hi := (List.mem_cons.mp hi).resolve_left c; clear c
  by_cases c : i = 27
  · subst c
    have q0 : 1 ≤ ws.length - 1 := q1
    exact rn_27 h ty B (by omega)
  have hi := (List.mem_cons.mp hi).resolve_left c; clear c
  by_cases c : i = 28
  · subst c
    have q0 : 0 ≤ ws.length - 1 := q1
    exact rn_28 h ty B (by omega)
  have hi := (List.mem_cons.mp hi).resolve_left c; clear c
  by_cases c : i = 29
  · subst c
    have q0 : 0 ≤ ws.length - 1 := q1
    exact rn_29 h ty B (by omega)
  have hi := (List.mem_cons.mp hi).resolve_left c; clear c
  by_cases c : i = 30
  · subst c
    have q0 : 2 ≤ ws.length - 1 := q1
    exact rn_30 h ty B (by omega)
  have hi := (List.mem_cons.mp hi).resolve_left c; clear c
  by_cases c : i = 31
  · subst c
    have q0 : 2 ≤ ws.length - 1 := q1
    exact rn_31 h ty B (by omega)
  have hi := (List.mem_cons.mp hi).resolve_left c; clear c
  by_cases c : i = 32
  · subst c
    have q0 : 2 ≤ ws.length - 1 := q1
    exact rn_32 h ty B (by omega)
  have hi := (List.mem_cons.mp hi).resolve_left c; clear c
  by_cases c : i = 33
  · subst c
    have q0 : 2 ≤ ws.length - 1 := q1
    exact rn_33 h ty B (by omega)
  have hi := (List.mem_cons.mp hi).resolve_left c; clear c
  by_cases c : i = 34
  · subst c
    have q0 : 1 ≤ ws.length - 1 := q1
    exact rn_34 h ty B (by omega)
  have hi := (List.mem_cons.mp hi).resolve_left c; clear c
  by_cases c : i = 35
  · subst c
    have q0 : 1 ≤ ws.length - 1 := q1
    exact rn_35 h ty B (by omega)
  have hi := (List.mem_cons.mp hi).resolve_left c; clear c
  by_cases c : i = 36
  · subst c
    have q0 : 1 ≤ ws.length - 1 := q1
    exact rn_36 h ty B (by omega)
  have hi := (List.mem_cons.mp hi).resolve_left c; clear c
  by_cases c : i = 37
  · subst c
    have q0 : 2 ≤ ws.length - 1 := q1
    exact rn_37 h ty B (by omega)
  have hi := (List.mem_cons.mp hi).resolve_left c; clear c
  by_cases c : i = 38
  · subst c
    have q0 : 2 ≤ ws.length - 1 := q1
    exact rn_38 h ty B (by omega)
  have hi := (List.mem_cons.mp hi).resolve_left c; clear c
  by_cases c : i = 39
  · subst c
    have q0 : 2 ≤ ws.length - 1 := q1
    exact rn_39 h ty B (by omega)
  have hi := (List.mem_cons.mp hi).resolve_left c; clear c
  by_cases c : i = 40
  · subst c
    have q0 : 2 ≤ ws.length - 1 := q1
    exact rn_40 h ty B (by omega)
  have hi := (List.mem_cons.mp hi).resolve_left c; clear c
  by_cases c : i = 41
  · subst c
    have q0 : 1 ≤ ws.length - 1 := q1
    exact rn_41 h ty B (by omega)
  have hi := (List.mem_cons.mp hi).resolve_left c; clear c
  by_cases c : i = 42
  · subst c
    have q0 : 1 ≤ ws.length - 1 := q1
    exact rn_42 h ty B (by omega)
  have hi := (List.mem_cons.mp hi).resolve_left c; clear c
  by_cases c : i = 43
  · subst c
    have q0 : 1 ≤ ws.length - 1 := q1
    exact rn_43 h ty B (by omega)
  have hi := (List.mem_cons.mp hi).resolve_left c; clear c
  by_cases c : i = 44
  · subst c
    have q0 : 3 ≤ ws.length - 1 := q1
    exact rn_44 h ty B (by omega)
  have hi := (List.mem_cons.mp hi).resolve_left c; clear c
  by_cases c : i = 45
  · subst c
    have q0 : 2 ≤ ws.length - 1 := q1
    exact rn_45 h ty B (by omega)
  have hi := (List.mem_cons.mp hi).resolve_left c; clear c
  by_cases c : i = 46
  · subst c
    have q0 : 3 ≤ ws.length - 1 := q1
    exact rn_46 h ty B (by omega)
  have hi := (List.mem_cons.mp hi).resolve_left c; clear c
  by_cases c : i = 47
  · subst c
    have q0 : 4 ≤ ws.length - 1 := q1
    exact rn_47 h ty B (by omega)
  have hi := (List.mem_cons.mp hi).resolve_left c; clear c
  by_cases c : i = 48
  · subst c
    have q0 : 3 ≤ ws.length - 1 := q1
    exact rn_48 h ty B (by omega)
  have hi := (List.mem_cons.mp hi).resolve_left c; clear c
  by_cases c : i = 49
  · subst c
    have q0 : 3 ≤ ws.length - 1 := q1
    exact rn_49 h ty B (by omega)
  have hi := (List.mem_cons.mp hi).resolve_left c; clear c
  by_cases c : i = 50
  · subst c
    have q0 : 4 ≤ ws.length - 1 := q1
    exact rn_50 h ty B (by omega)
  have hi := (List.mem_cons.mp hi).resolve_left c; clear c
  by_cases c : i = 51
  · subst c
    have q0 : 2 ≤ ws.length - 1 := q1
    exact rn_51 h ty B (by omega)
  have hi := (List.mem_cons.mp hi).resolve_left c; clear c
  by_cases c : i = 52
  · subst c
    have q0 : 3 ≤ ws.length - 1 := q1
    exact rn_52 h ty B (by omega) ((ws.length - 2) / 2) (by have q4 : decide ((ws.length - 1) % 2 = 1) = true := q3; have := of_decide_eq_true q4; omega)
  have hi := (List.mem_cons.mp hi).resolve_left c; clear c
  by_cases c : i = 53
  · subst c
    have q0 : 3 ≤ ws.length - 1 := q1
    exact rn_53 h ty B (by omega) 1 (by have q4 : (4 : Nat) = 0 ∨ ws.length - 1 < 4 := q2; omega)
  have hi := (List.mem_cons.mp hi).resolve_left c; clear c
  by_cases c : i = 54
  · subst c
    have q0 : 2 ≤ ws.length - 1 := q1
    exact rn_54 h ty B (by omega)
  have hi := (List.mem_cons.mp hi).resolve_left c; clear c
  by_cases c : i = 55
  · subst c
    have q0 : 2 ≤ ws.length - 1 := q1
    exact rn_55 h ty B (by omega)
  have hi := (List.mem_cons.mp hi).resolve_left c; clear c
  by_cases c : i = 56
  · subst c
    have q0 : 2 ≤ ws.length - 1 := q1
    exact rn_56 h ty B (by omega)
  have hi := (List.mem_cons.mp hi).resolve_left c; clear c
  by_cases c : i = 57
  · subst c
    have q0 : 2 ≤ ws.length - 1 := q1
    exact rn_57 h ty B (by omega)
  have hi := (List.mem_cons.mp hi).resolve_left c; clear c
  by_cases c : i = 58
  · subst c
    have q0 : 1 ≤ ws.length - 1 := q1
    exact rn_58 h ty B (by omega)
  have hi := (List.mem_cons.mp hi).resolve_left c; clear c
  by_cases c : i = 59
  · subst c
    have q0 : 2 ≤ ws.length - 1 := q1
    exact rn_59 h ty B (by omega)
  have hi := (List.mem_cons.mp hi).resolve_left c; clear c
  by_cases c : i = 60
  · subst c
    have q0 : 1 ≤ ws.length - 1 := q1
    exact rn_60 h ty B (by omega)
  have hi := (List.mem_cons.mp hi).resolve_left c; clear c
  by_cases c : i = 61
  · subst c
    have q0 : 1 ≤ ws.length - 1 := q1
    exact rn_61 h ty B (by omega)
  have hi := (List.mem_cons.mp hi).resolve_left c; clear c
  by_cases c : i = 62
  · subst c
    have q0 : 1 ≤ ws.length - 1 := q1
    exact rn_62 h ty B (by omega)
  have hi := (List.mem_cons.mp hi).resolve_left c; clear c
  by_cases c : i = 63
  · subst c
    have q0 : 3 ≤ ws.length - 1 := q1
    exact rn_63 h ty B (by omega)
  have hi := (List.mem_cons.mp hi).resolve_left c; clear c
  by_cases c : i = 64
  · subst c
    have q0 : 2 ≤ ws.length - 1 := q1
    exact rn_64 h ty B (by omega)
  have hi := (List.mem_cons.mp hi).resolve_left c; clear c
  by_cases c : i = 65
  · subst c
    have q0 : 2 ≤ ws.length - 1 := q1
    exact rn_65 h ty B (by omega)
  have hi := (List.mem_cons.mp hi).resolve_left c; clear c
  by_cases c : i = 66
  · subst c
    have q0 : 2 ≤ ws.length - 1 := q1
    exact rn_66 h ty B (by omega)
  have hi := (List.mem_cons.mp hi).resolve_left c; clear c
  by_cases c : i = 67
  · subst c
    have q0 : 2 ≤ ws.length - 1 := q1
    exact rn_67 h ty B (by omega)
  have hi := (List.mem_cons.mp hi).resolve_left c; clear c
  by_cases c : i = 68
  · subst c
    have q0 : 1 ≤ ws.length - 1 := q1
    exact rn_68 h ty B (by omega)
  have hi := (List.mem_cons.mp hi).resolve_left c; clear c
  by_cases c : i = 69
  · subst c
    have q0 : 1 ≤ ws.length - 1 := q1
    exact rn_69 h ty B (by omega)
  have hi := (List.mem_cons.mp hi).resolve_left c; clear c
  by_cases c : i = 70
  · subst c
    have q0 : 3 ≤ ws.length - 1 := q1
    exact rn_70 h ty B (by omega)
  have hi := (List.mem_cons.mp hi).resolve_left c; clear c
  by_cases c : i = 71
  · subst c
    have q0 : 1 ≤ ws.length - 1 := q1
    exact rn_71 h ty B (by omega)
  have hi := (List.mem_cons.mp hi).resolve_left c; clear c
  by_cases c : i = 72
  · subst c
    have q0 : 1 ≤ ws.length - 1 := q1
    exact rn_72 h ty B (by omega)
  have hi := (List.mem_cons.mp hi).resolve_left c; clear c
  by_cases c : i = 73
  · subst c
    have q0 : 1 ≤ ws.length - 1 := q1
    exact rn_73 h ty B (by omega)
  have hi := (List.mem_cons.mp hi).resolve_left c; clear c
  by_cases c : i = 74
  · subst c
    have q0 : 2 ≤ ws.length - 1 := q1
    exact rn_74 h ty B (by omega)
  have hi := (List.mem_cons.mp hi).resolve_left c; clear c
  by_cases c : i = 75
  · subst c
    have q0 : 2 ≤ ws.length - 1 := q1
    exact rn_75 h ty B (by omega)
  have hi := (List.mem_cons.mp hi).resolve_left c; clear c
  by_cases c : i = 76
  · subst c
    have q0 : 2 ≤ ws.length - 1 := q1
    exact rn_76 h ty B (by omega)
  have hi := (List.mem_cons.mp hi).resolve_left c; clear c
  by_cases c : i = 77
  · subst c
    have q0 : 1 ≤ ws.length - 1 := q1
    exact rn_77 h ty B (by omega)
  have hi := (List.mem_cons.mp hi).resolve_left c; clear c
  by_cases c : i = 78
  · subst c
    have q0 : 3 ≤ ws.length - 1 := q1
    exact rn_78 h ty B (by omega)
  have hi := (List.mem_cons.mp hi).resolve_left c; clear c
  by_cases c : i = 79
  · subst c
    have q0 : 2 ≤ ws.length - 1 := q1
    exact rn_79 h ty B (by omega)
  have hi := (List.mem_cons.mp hi).resolve_left c; clear c
  by_cases c : i = 80
  · subst c
    have q0 : 2 ≤ ws.length - 1 := q1
    exact rn_80 h ty B (by omega)
  have hi := (List.mem_cons.mp hi).resolve_left c; clear c
  by_cases c : i = 81
  · subst c
    have q0 : 3 ≤ ws.length - 1 := q1
    exact rn_81 h ty B (by omega)
  have hi := (List.mem_cons.mp hi).resolve_left c; clear c
  by_cases c : i = 82
  · subst c
    have q0 : 1 ≤ ws.length - 1 := q1
    exact rn_82 h ty B (by omega)
  have hi := (List.mem_cons.mp hi).resolve_left c; clear c
  by_cases c : i = 83
  · subst c
    have q0 : 2 ≤ ws.length - 1 := q1
    exact rn_83 h ty B (by omega)
  have hi := (List.mem_cons.mp hi).resolve_left c; clear c
  by_cases c : i = 84
  · subst c
    have q0 : 2 ≤ ws.length - 1 := q1
    exact rn_84 h ty B (by omega)
  have hi := (List.mem_cons.mp hi).resolve_left c; clear c
  by_cases c : i = 85
  · subst c
    have q0 : 3 ≤ ws.length - 1 := q1
    exact rn_85 h ty B (by omega)
  have hi := (List.mem_cons.mp hi).resolve_left c; clear c
  by_cases c : i = 86
  · subst c
    have q0 : 3 ≤ ws.length - 1 := q1
    exact rn_86 h ty B (by omega)
  have hi := (List.mem_cons.mp hi).resolve_left c; clear c
  by_cases c : i = 87
  · subst c
    have q0 : 3 ≤ ws.length - 1 := q1
    exact rn_87 h ty B (by omega)
  have hi := (List.mem_cons.mp hi).resolve_left c; clear c
  by_cases c : i = 88
  · subst c
    have q0 : 3 ≤ ws.length - 1 := q1
    exact rn_88 h ty B (by omega)
  have hi := (List.mem_cons.mp hi).resolve_left c; clear c
  by_cases c : i = 89
  · subst c
    have q0 : 3 ≤ ws.length - 1 := q1
    exact rn_89 h ty B (by omega)
  have hi := (List.mem_cons.mp hi).resolve_left c; clear c
  by_cases c : i = 90
  · subst c
    have q0 : 3 ≤ ws.length - 1 := q1
    exact rn_90 h ty B (by omega)
  have hi := (List.mem_cons.mp hi).resolve_left c; clear c
  by_cases c : i = 91
  · subst c
    have q0 : 3 ≤ ws.length - 1 := q1
    exact rn_91 h ty B (by omega)
  have hi := (List.mem_cons.mp hi).resolve_left c; clear c
  by_cases c : i = 92
  · subst c
    have q0 : 1 ≤ ws.length - 1 := q1
    exact rn_92 h ty B (by omega)
  have hi := (List.mem_cons.mp hi).resolve_left c; clear c
  by_cases c : i = 93
  · subst c
    have q0 : 1 ≤ ws.length - 1 := q1
    exact rn_93 h ty B (by omega)
  have hi := (List.mem_cons.mp hi).resolve_left c; clear c
  by_cases c : i = 94
  · subst c
    have q0 : 0 ≤ ws.length - 1 := q1
    exact rn_94 h ty B (by omega)
  have hi := (List.mem_cons.mp hi).resolve_left c; clear c
  by_cases c : i = 95
  · subst c
    have q0 : 1 ≤ ws.length - 1 := q1
    exact rn_95 h ty B (by omega)
  have hi := (List.mem_cons.mp hi).resolve_left c; clear c
  by_cases c : i = 105
  · subst c
    have q0 : 0 ≤ ws.length - 1 := q1
    exact rn_105 h ty B (by omega)
  have hi := (List.mem_cons.mp hi).resolve_left c; clear c
  cases hi
/-- what a run may change -/
abbrev ruH : List Nat := cH ++ [r_watches, r_held, r_output, r_outSize, r_channels, r_queued, r_spoilt, r_blocked, r_inSize, r_opened]
def runK (σ : mjS) (ws : Req) (ks : List KR) (l : List Int32) (qe we ce : Nat) (I : Nat → Nat) (G : Nat → List Req) (e : Eff) : mjK := fun r u => r = none ∧ Fr cF ruH σ u ∧ (∃ ks', Wd u ws ks' (rnL σ l e) ∧ strip ks' = efA (strip ks) e) ∧ ∃ I' G', CX u qe we ce I' G' ∧ CL I I' G G'
set_option maxRecDepth 100000 in
theorem run_all {σ : mjS} {ws : Req} {ks : List KR} {l : List Int32} (h : Wd σ ws ks l) (ty : mjTY σ) {qe we ce : Nat} {I : Nat → Nat} {G : Nat → List Req} (hX : CX σ qe we ce I G) {c : Nat} (hc : c < 4) (ec : σ.1 f_cur = nI c) (i : Nat) (h1 : 1 ≤ i) (h2 : i ≤ 105) (hi : i ∉ [96, 97, 99, 100, 101, 102, 103]) (B : BD σ i ws ks l) (af : afX i (ws.length - 1) = true) (hw : 1 ≤ ws.length) {x : Int32} (ex : x = nI i) : mjY mjPP (mjQQ Y) (d + 9) 155 0 (mjL0 2 [.ref 0, .int x]) [] σ (runK σ ws ks l qe we ce I G (rnE σ ks i ws)) := by
  have h1024 := h.2.1.2.1
  obtain ⟨q1, q2, q3⟩ := af_lo (by omega) (by omega) af
  by_cases c1 : i = 98
  · subst c1; rw [ex]
    refine c_runR (Q := flZ) ty 98 (by decide) rfl B.2.2.2.2.1 (fun z => absurd z (by decide)) (fun z => absurd z (by decide)) (mjY_mono ty (fun r u _ k => ⟨_, k⟩) (c_opt h ty (fun u tu fu hu z => c_opt_none hu tu z 98 (by decide) (by decide) rfl))) (fun u fu hu => ?_) (fun u tu fu hu q => mjY_mono tu (fun r v tv k => ?_) (rd_98 hu tu hc (by rw [fu.1 _ (by decide)]; exact ec)))
    · rw [rnE_rd (by decide) rfl]
      exact ⟨rfl, fu.up (by decide) (by decide), ⟨ks, hu, rfl⟩, I, G, hX.fr fu (by decide) (by decide), CL.rf⟩
    · rw [rnE_rd (by decide) rfl]
      obtain ⟨k1, k2, k3⟩ := k
      exact ⟨k1, (fu.op.up (by decide) (by decide)).tr (k2.up (by decide) (by decide)), ⟨ks, k3, rfl⟩, I, G, (hX.fr fu (by decide) (by decide)).fr k2 (by decide) (by decide), CL.rf⟩
  by_cases c2 : i = 104
  · subst c2; rw [ex]
    have q0 : 2 ≤ ws.length - 1 := q1
    refine c_runR (Q := flZ) ty 104 (by decide) rfl B.2.2.2.2.1 (fun z => absurd z (by decide)) (fun z => absurd z (by decide)) (mjY_mono ty (fun r u _ k => ⟨_, k⟩) (c_opt h ty (fun u tu fu hu z => c_opt_none hu tu z 104 (by decide) (by decide) rfl))) (fun u fu hu => ?_) (fun u tu fu hu q => dp_104 tu (fun r u k => k.1) (mjY_mono tu (fun r v tv k => ?_) (r_publish (d := d + 4) hu tu (gw_at (k := 1) (by omega)) (gw_at (k := 2) (by omega)) (hX.fr fu (by decide) (by decide)))))
    · rw [rnE_rd (by decide) rfl]
      exact ⟨rfl, fu.up (by decide) (by decide), ⟨ks, hu, rfl⟩, I, G, hX.fr fu (by decide) (by decide), CL.rf⟩
    · rw [rnE_rd (by decide) rfl]
      obtain ⟨k1, k2, k3, k4⟩ := k
      exact ⟨k1, (fu.op.up (by decide) (by decide)).tr (k2.up (by decide) (by decide)), ⟨ks, k3, rfl⟩, k4⟩
  have hi2 : i ∈ rnI := by
    rcases (by decide +kernel : ∀ i, i < 106 → (i = 0 ∨ i ∈ [96, 97, 99, 100, 101, 102, 103] ∨ i = 98 ∨ i = 104 ∨ i ∈ rnI)) i (by omega) with z | z | z | z | z
    · omega
    · exact absurd z hi
    · exact absurd z c1
    · exact absurd z c2
    · exact z
  refine mjY_mono ty (fun r u _ k => ?_) (rn_all h ty i hi2 B af hw ex)
  obtain ⟨k1, k2, k3⟩ := k
  exact ⟨k1, k2.up (by decide) (by decide), k3, I, G, hX.fr k2 (by decide) (by decide), CL.rf⟩
end RUNALL
