/-! The words of the class's tables, more. -/
section KOKW
def fsK_0 : List (Nat × Nat) := [(269, 201), (409, 8), (411, 47), (474, 88), (480, 87), (488, 6)]
theorem fsk_0_0 : ∀ p ∈ ([(269, 201), (409, 8), (411, 47), (474, 88), (480, 87), (488, 6)] : List (Nat × Nat)), (fun (c : Nat) (p : Nat × Nat) => Cond.fieldLink (kcn c) p.1 (kSn p.2).1 (kSn p.2).2.1 (kSn p.2).2.2 ∈ kw) 0 p := List.forall_mem_cons.mpr ⟨kw_tab (tl_in (tb_3 (List.mem_of_getElem? (i := 205) (by decide +kernel)))) rfl, List.forall_mem_cons.mpr ⟨kw_tab (tl_in (tb_8 (List.mem_of_getElem? (i := 237) (by decide +kernel)))) rfl, List.forall_mem_cons.mpr ⟨kw_tab (tl_in (tb_8 (List.mem_of_getElem? (i := 117) (by decide +kernel)))) rfl, List.forall_mem_cons.mpr ⟨kw_tab (tl_in (tb_8 (List.mem_of_getElem? (i := 102) (by decide +kernel)))) rfl, List.forall_mem_cons.mpr ⟨kw_tab (tl_in (tb_8 (List.mem_of_getElem? (i := 114) (by decide +kernel)))) rfl, List.forall_mem_cons.mpr ⟨kw_tab (tl_in (tb_8 (List.mem_of_getElem? (i := 120) (by decide +kernel)))) rfl, fun _ h => absurd h List.not_mem_nil⟩⟩⟩⟩⟩⟩
theorem fsk_0 : ∀ p ∈ fsK_0, (fun (c : Nat) (p : Nat × Nat) => Cond.fieldLink (kcn c) p.1 (kSn p.2).1 (kSn p.2).2.1 (kSn p.2).2.2 ∈ kw) 0 p := by
  show ∀ p ∈ ([(269, 201), (409, 8), (411, 47), (474, 88), (480, 87), (488, 6)] : List (Nat × Nat)), _
  exact fsk_0_0
def fsK_1 : List (Nat × Nat) := []
theorem fsk_1 : ∀ p ∈ fsK_1, (fun (c : Nat) (p : Nat × Nat) => Cond.fieldLink (kcn c) p.1 (kSn p.2).1 (kSn p.2).2.1 (kSn p.2).2.2 ∈ kw) 1 p := fun _ h => absurd h List.not_mem_nil
def fsK_2 : List (Nat × Nat) := [(361, 200)]
theorem fsk_2_0 : ∀ p ∈ ([(361, 200)] : List (Nat × Nat)), (fun (c : Nat) (p : Nat × Nat) => Cond.fieldLink (kcn c) p.1 (kSn p.2).1 (kSn p.2).2.1 (kSn p.2).2.2 ∈ kw) 2 p := List.forall_mem_cons.mpr ⟨kw_tab (tl_in (tb_3 (List.mem_of_getElem? (i := 181) (by decide +kernel)))) rfl, fun _ h => absurd h List.not_mem_nil⟩
theorem fsk_2 : ∀ p ∈ fsK_2, (fun (c : Nat) (p : Nat × Nat) => Cond.fieldLink (kcn c) p.1 (kSn p.2).1 (kSn p.2).2.1 (kSn p.2).2.2 ∈ kw) 2 p := by
  show ∀ p ∈ ([(361, 200)] : List (Nat × Nat)), _
  exact fsk_2_0
def fsK_3 : List (Nat × Nat) := []
theorem fsk_3 : ∀ p ∈ fsK_3, (fun (c : Nat) (p : Nat × Nat) => Cond.fieldLink (kcn c) p.1 (kSn p.2).1 (kSn p.2).2.1 (kSn p.2).2.2 ∈ kw) 3 p := fun _ h => absurd h List.not_mem_nil
def fsK_4 : List (Nat × Nat) := [(237, 201), (256, 57), (281, 84), (349, 10), (352, 11), (355, 49)]
theorem fsk_4_0 : ∀ p ∈ ([(237, 201), (256, 57), (281, 84), (349, 10), (352, 11), (355, 49)] : List (Nat × Nat)), (fun (c : Nat) (p : Nat × Nat) => Cond.fieldLink (kcn c) p.1 (kSn p.2).1 (kSn p.2).2.1 (kSn p.2).2.2 ∈ kw) 4 p := List.forall_mem_cons.mpr ⟨kw_tab (tl_in (tb_5 (List.mem_of_getElem? (i := 210) (by decide +kernel)))) rfl, List.forall_mem_cons.mpr ⟨kw_tab (tl_in (tb_5 (List.mem_of_getElem? (i := 233) (by decide +kernel)))) rfl, List.forall_mem_cons.mpr ⟨kw_tab (tl_in (tb_6 (List.mem_of_getElem? (i := 40) (by decide +kernel)))) rfl, List.forall_mem_cons.mpr ⟨kw_tab (tl_in (tb_6 (List.mem_of_getElem? (i := 53) (by decide +kernel)))) rfl, List.forall_mem_cons.mpr ⟨kw_tab (tl_in (tb_6 (List.mem_of_getElem? (i := 55) (by decide +kernel)))) rfl, List.forall_mem_cons.mpr ⟨kw_tab (tl_in (tb_6 (List.mem_of_getElem? (i := 57) (by decide +kernel)))) rfl, fun _ h => absurd h List.not_mem_nil⟩⟩⟩⟩⟩⟩
theorem fsk_4 : ∀ p ∈ fsK_4, (fun (c : Nat) (p : Nat × Nat) => Cond.fieldLink (kcn c) p.1 (kSn p.2).1 (kSn p.2).2.1 (kSn p.2).2.2 ∈ kw) 4 p := by
  show ∀ p ∈ ([(237, 201), (256, 57), (281, 84), (349, 10), (352, 11), (355, 49)] : List (Nat × Nat)), _
  exact fsk_4_0
def fsK_5 : List (Nat × Nat) := [(23, 201), (35, 39), (43, 61), (46, 37), (71, 36)]
theorem fsk_5_0 : ∀ p ∈ ([(23, 201), (35, 39), (43, 61), (46, 37), (71, 36)] : List (Nat × Nat)), (fun (c : Nat) (p : Nat × Nat) => Cond.fieldLink (kcn c) p.1 (kSn p.2).1 (kSn p.2).2.1 (kSn p.2).2.2 ∈ kw) 5 p := List.forall_mem_cons.mpr ⟨kw_tab (tl_in (tb_6 (List.mem_of_getElem? (i := 66) (by decide +kernel)))) rfl, List.forall_mem_cons.mpr ⟨kw_tab (tl_in (tb_6 (List.mem_of_getElem? (i := 68) (by decide +kernel)))) rfl, List.forall_mem_cons.mpr ⟨kw_tab (tl_in (tb_6 (List.mem_of_getElem? (i := 102) (by decide +kernel)))) rfl, List.forall_mem_cons.mpr ⟨kw_tab (tl_in (tb_6 (List.mem_of_getElem? (i := 104) (by decide +kernel)))) rfl, List.forall_mem_cons.mpr ⟨kw_tab (tl_in (tb_6 (List.mem_of_getElem? (i := 176) (by decide +kernel)))) rfl, fun _ h => absurd h List.not_mem_nil⟩⟩⟩⟩⟩
theorem fsk_5 : ∀ p ∈ fsK_5, (fun (c : Nat) (p : Nat × Nat) => Cond.fieldLink (kcn c) p.1 (kSn p.2).1 (kSn p.2).2.1 (kSn p.2).2.2 ∈ kw) 5 p := by
  show ∀ p ∈ ([(23, 201), (35, 39), (43, 61), (46, 37), (71, 36)] : List (Nat × Nat)), _
  exact fsk_5_0
def fsK_6 : List (Nat × Nat) := [(36, 201), (76, 29), (80, 23), (250, 72), (253, 71), (256, 82), (259, 81), (262, 64)]
theorem fsk_6_0 : ∀ p ∈ ([(36, 201), (76, 29), (80, 23), (250, 72), (253, 71), (256, 82), (259, 81), (262, 64)] : List (Nat × Nat)), (fun (c : Nat) (p : Nat × Nat) => Cond.fieldLink (kcn c) p.1 (kSn p.2).1 (kSn p.2).2.1 (kSn p.2).2.2 ∈ kw) 6 p := List.forall_mem_cons.mpr ⟨kw_tab (tl_in (tb_6 (List.mem_of_getElem? (i := 193) (by decide +kernel)))) rfl, List.forall_mem_cons.mpr ⟨kw_tab (tl_in (tb_7 (List.mem_of_getElem? (i := 44) (by decide +kernel)))) rfl, List.forall_mem_cons.mpr ⟨kw_tab (tl_in (tb_7 (List.mem_of_getElem? (i := 46) (by decide +kernel)))) rfl, List.forall_mem_cons.mpr ⟨kw_tab (tl_in (tb_7 (List.mem_of_getElem? (i := 103) (by decide +kernel)))) rfl, List.forall_mem_cons.mpr ⟨kw_tab (tl_in (tb_7 (List.mem_of_getElem? (i := 93) (by decide +kernel)))) rfl, List.forall_mem_cons.mpr ⟨kw_tab (tl_in (tb_7 (List.mem_of_getElem? (i := 105) (by decide +kernel)))) rfl, List.forall_mem_cons.mpr ⟨kw_tab (tl_in (tb_7 (List.mem_of_getElem? (i := 91) (by decide +kernel)))) rfl, List.forall_mem_cons.mpr ⟨kw_tab (tl_in (tb_7 (List.mem_of_getElem? (i := 107) (by decide +kernel)))) rfl, fun _ h => absurd h List.not_mem_nil⟩⟩⟩⟩⟩⟩⟩⟩
theorem fsk_6 : ∀ p ∈ fsK_6, (fun (c : Nat) (p : Nat × Nat) => Cond.fieldLink (kcn c) p.1 (kSn p.2).1 (kSn p.2).2.1 (kSn p.2).2.2 ∈ kw) 6 p := by
  show ∀ p ∈ ([(36, 201), (76, 29), (80, 23), (250, 72), (253, 71), (256, 82), (259, 81), (262, 64)] : List (Nat × Nat)), _
  exact fsk_6_0
def fsK_7 : List (Nat × Nat) := [(23, 201), (47, 103), (55, 101), (61, 102), (76, 93)]
theorem fsk_7_0 : ∀ p ∈ ([(23, 201), (47, 103), (55, 101), (61, 102), (76, 93)] : List (Nat × Nat)), (fun (c : Nat) (p : Nat × Nat) => Cond.fieldLink (kcn c) p.1 (kSn p.2).1 (kSn p.2).2.1 (kSn p.2).2.2 ∈ kw) 7 p := List.forall_mem_cons.mpr ⟨kw_tab (tl_in (tb_7 (List.mem_of_getElem? (i := 115) (by decide +kernel)))) rfl, List.forall_mem_cons.mpr ⟨kw_tab (tl_in (tb_7 (List.mem_of_getElem? (i := 217) (by decide +kernel)))) rfl, List.forall_mem_cons.mpr ⟨kw_tab (tl_in (tb_7 (List.mem_of_getElem? (i := 223) (by decide +kernel)))) rfl, List.forall_mem_cons.mpr ⟨kw_tab (tl_in (tb_7 (List.mem_of_getElem? (i := 238) (by decide +kernel)))) rfl, List.forall_mem_cons.mpr ⟨kw_tab (tl_in (tb_8 (List.mem_of_getElem? (i := 46) (by decide +kernel)))) rfl, fun _ h => absurd h List.not_mem_nil⟩⟩⟩⟩⟩
theorem fsk_7 : ∀ p ∈ fsK_7, (fun (c : Nat) (p : Nat × Nat) => Cond.fieldLink (kcn c) p.1 (kSn p.2).1 (kSn p.2).2.1 (kSn p.2).2.2 ∈ kw) 7 p := by
  show ∀ p ∈ ([(23, 201), (47, 103), (55, 101), (61, 102), (76, 93)] : List (Nat × Nat)), _
  exact fsk_7_0
def fsK_8 : List (Nat × Nat) := []
theorem fsk_8 : ∀ p ∈ fsK_8, (fun (c : Nat) (p : Nat × Nat) => Cond.fieldLink (kcn c) p.1 (kSn p.2).1 (kSn p.2).2.1 (kSn p.2).2.2 ∈ kw) 8 p := fun _ h => absurd h List.not_mem_nil
def fsK_9 : List (Nat × Nat) := [(28, 201), (53, 68), (64, 46), (133, 79), (144, 15), (331, 3), (334, 4), (337, 31)]
theorem fsk_9_0 : ∀ p ∈ ([(28, 201), (53, 68), (64, 46), (133, 79), (144, 15), (331, 3), (334, 4), (337, 31)] : List (Nat × Nat)), (fun (c : Nat) (p : Nat × Nat) => Cond.fieldLink (kcn c) p.1 (kSn p.2).1 (kSn p.2).2.1 (kSn p.2).2.2 ∈ kw) 9 p := List.forall_mem_cons.mpr ⟨kw_tab (tl_in (tb_4 (List.mem_of_getElem? (i := 29) (by decide +kernel)))) rfl, List.forall_mem_cons.mpr ⟨kw_tab (tl_in (tb_5 (List.mem_of_getElem? (i := 96) (by decide +kernel)))) rfl, List.forall_mem_cons.mpr ⟨kw_tab (tl_in (tb_5 (List.mem_of_getElem? (i := 107) (by decide +kernel)))) rfl, List.forall_mem_cons.mpr ⟨kw_tab (tl_in (tb_4 (List.mem_of_getElem? (i := 94) (by decide +kernel)))) rfl, List.forall_mem_cons.mpr ⟨kw_tab (tl_in (tb_4 (List.mem_of_getElem? (i := 109) (by decide +kernel)))) rfl, List.forall_mem_cons.mpr ⟨kw_tab (tl_in (tb_5 (List.mem_of_getElem? (i := 188) (by decide +kernel)))) rfl, List.forall_mem_cons.mpr ⟨kw_tab (tl_in (tb_5 (List.mem_of_getElem? (i := 190) (by decide +kernel)))) rfl, List.forall_mem_cons.mpr ⟨kw_tab (tl_in (tb_5 (List.mem_of_getElem? (i := 192) (by decide +kernel)))) rfl, fun _ h => absurd h List.not_mem_nil⟩⟩⟩⟩⟩⟩⟩⟩
theorem fsk_9 : ∀ p ∈ fsK_9, (fun (c : Nat) (p : Nat × Nat) => Cond.fieldLink (kcn c) p.1 (kSn p.2).1 (kSn p.2).2.1 (kSn p.2).2.2 ∈ kw) 9 p := by
  show ∀ p ∈ ([(28, 201), (53, 68), (64, 46), (133, 79), (144, 15), (331, 3), (334, 4), (337, 31)] : List (Nat × Nat)), _
  exact fsk_9_0
def fsK_10 : List (Nat × Nat) := []
theorem fsk_10 : ∀ p ∈ fsK_10, (fun (c : Nat) (p : Nat × Nat) => Cond.fieldLink (kcn c) p.1 (kSn p.2).1 (kSn p.2).2.1 (kSn p.2).2.2 ∈ kw) 10 p := fun _ h => absurd h List.not_mem_nil
def fsK_11 : List (Nat × Nat) := []
theorem fsk_11 : ∀ p ∈ fsK_11, (fun (c : Nat) (p : Nat × Nat) => Cond.fieldLink (kcn c) p.1 (kSn p.2).1 (kSn p.2).2.1 (kSn p.2).2.2 ∈ kw) 11 p := fun _ h => absurd h List.not_mem_nil
def fsK_12 : List (Nat × Nat) := []
theorem fsk_12 : ∀ p ∈ fsK_12, (fun (c : Nat) (p : Nat × Nat) => Cond.fieldLink (kcn c) p.1 (kSn p.2).1 (kSn p.2).2.1 (kSn p.2).2.2 ∈ kw) 12 p := fun _ h => absurd h List.not_mem_nil
def fsK_13 : List (Nat × Nat) := []
theorem fsk_13 : ∀ p ∈ fsK_13, (fun (c : Nat) (p : Nat × Nat) => Cond.fieldLink (kcn c) p.1 (kSn p.2).1 (kSn p.2).2.1 (kSn p.2).2.2 ∈ kw) 13 p := fun _ h => absurd h List.not_mem_nil
def fsK_14 : List (Nat × Nat) := [(38, 202)]
theorem fsk_14_0 : ∀ p ∈ ([(38, 202)] : List (Nat × Nat)), (fun (c : Nat) (p : Nat × Nat) => Cond.fieldLink (kcn c) p.1 (kSn p.2).1 (kSn p.2).2.1 (kSn p.2).2.2 ∈ kw) 14 p := List.forall_mem_cons.mpr ⟨kw_tab (tl_in (tb_3 (List.mem_of_getElem? (i := 105) (by decide +kernel)))) rfl, fun _ h => absurd h List.not_mem_nil⟩
theorem fsk_14 : ∀ p ∈ fsK_14, (fun (c : Nat) (p : Nat × Nat) => Cond.fieldLink (kcn c) p.1 (kSn p.2).1 (kSn p.2).2.1 (kSn p.2).2.2 ∈ kw) 14 p := by
  show ∀ p ∈ ([(38, 202)] : List (Nat × Nat)), _
  exact fsk_14_0
def fsK_15 : List (Nat × Nat) := []
theorem fsk_15 : ∀ p ∈ fsK_15, (fun (c : Nat) (p : Nat × Nat) => Cond.fieldLink (kcn c) p.1 (kSn p.2).1 (kSn p.2).2.1 (kSn p.2).2.2 ∈ kw) 15 p := fun _ h => absurd h List.not_mem_nil
def fsK_16 : List (Nat × Nat) := []
theorem fsk_16 : ∀ p ∈ fsK_16, (fun (c : Nat) (p : Nat × Nat) => Cond.fieldLink (kcn c) p.1 (kSn p.2).1 (kSn p.2).2.1 (kSn p.2).2.2 ∈ kw) 16 p := fun _ h => absurd h List.not_mem_nil
def fsT : List (List (Nat × Nat)) := [fsK_0, fsK_1, fsK_2, fsK_3, fsK_4, fsK_5, fsK_6, fsK_7, fsK_8, fsK_9, fsK_10, fsK_11, fsK_12, fsK_13, fsK_14, fsK_15, fsK_16]
theorem fsT_all : ∀ c, ∀ p ∈ fsT.getD c [], Cond.fieldLink (kcn c) p.1 (kSn p.2).1 (kSn p.2).2.1 (kSn p.2).2.2 ∈ kw := by
  intro c
  match c with
  | 0 => exact fsk_0
  | 1 => exact fsk_1
  | 2 => exact fsk_2
  | 3 => exact fsk_3
  | 4 => exact fsk_4
  | 5 => exact fsk_5
  | 6 => exact fsk_6
  | 7 => exact fsk_7
  | 8 => exact fsk_8
  | 9 => exact fsk_9
  | 10 => exact fsk_10
  | 11 => exact fsk_11
  | 12 => exact fsk_12
  | 13 => exact fsk_13
  | 14 => exact fsk_14
  | 15 => exact fsk_15
  | 16 => exact fsk_16
  | c + 17 =>
    intro p hp
    rw [List.getD_eq_getElem?_getD, List.getElem?_eq_none (by show 17 ≤ c + 17; omega)] at hp
    cases hp
end KOKW
