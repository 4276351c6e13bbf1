/-! The words of the class's tables, more. -/
section KOKW
def acK_0 : List (Nat × Nat) := []
theorem ack_0 : ∀ p ∈ acK_0, (fun (c : Nat) (p : Nat × Nat) => Cond.methodLink (kcn c) p.1 arraycopyName ∈ kw) 0 p := fun _ h => absurd h List.not_mem_nil
def acK_1 : List (Nat × Nat) := [(45, 1006)]
theorem ack_1_0 : ∀ p ∈ ([(45, 1006)] : List (Nat × Nat)), (fun (c : Nat) (p : Nat × Nat) => Cond.methodLink (kcn c) p.1 arraycopyName ∈ kw) 1 p := List.forall_mem_cons.mpr ⟨kw_tab (tl_in (tb_3 (List.mem_of_getElem? (i := 60) (by decide +kernel)))) rfl, fun _ h => absurd h List.not_mem_nil⟩
theorem ack_1 : ∀ p ∈ acK_1, (fun (c : Nat) (p : Nat × Nat) => Cond.methodLink (kcn c) p.1 arraycopyName ∈ kw) 1 p := by
  show ∀ p ∈ ([(45, 1006)] : List (Nat × Nat)), _
  exact ack_1_0
def acK_2 : List (Nat × Nat) := []
theorem ack_2 : ∀ p ∈ acK_2, (fun (c : Nat) (p : Nat × Nat) => Cond.methodLink (kcn c) p.1 arraycopyName ∈ kw) 2 p := fun _ h => absurd h List.not_mem_nil
def acK_3 : List (Nat × Nat) := [(123, 1006)]
theorem ack_3_0 : ∀ p ∈ ([(123, 1006)] : List (Nat × Nat)), (fun (c : Nat) (p : Nat × Nat) => Cond.methodLink (kcn c) p.1 arraycopyName ∈ kw) 3 p := List.forall_mem_cons.mpr ⟨kw_tab (tl_in (tb_8 (List.mem_of_getElem? (i := 72) (by decide +kernel)))) rfl, fun _ h => absurd h List.not_mem_nil⟩
theorem ack_3 : ∀ p ∈ acK_3, (fun (c : Nat) (p : Nat × Nat) => Cond.methodLink (kcn c) p.1 arraycopyName ∈ kw) 3 p := by
  show ∀ p ∈ ([(123, 1006)] : List (Nat × Nat)), _
  exact ack_3_0
def acK_4 : List (Nat × Nat) := [(108, 1006)]
theorem ack_4_0 : ∀ p ∈ ([(108, 1006)] : List (Nat × Nat)), (fun (c : Nat) (p : Nat × Nat) => Cond.methodLink (kcn c) p.1 arraycopyName ∈ kw) 4 p := List.forall_mem_cons.mpr ⟨kw_tab (tl_in (tb_4 (List.mem_of_getElem? (i := 123) (by decide +kernel)))) rfl, fun _ h => absurd h List.not_mem_nil⟩
theorem ack_4 : ∀ p ∈ acK_4, (fun (c : Nat) (p : Nat × Nat) => Cond.methodLink (kcn c) p.1 arraycopyName ∈ kw) 4 p := by
  show ∀ p ∈ ([(108, 1006)] : List (Nat × Nat)), _
  exact ack_4_0
def acK_5 : List (Nat × Nat) := []
theorem ack_5 : ∀ p ∈ acK_5, (fun (c : Nat) (p : Nat × Nat) => Cond.methodLink (kcn c) p.1 arraycopyName ∈ kw) 5 p := fun _ h => absurd h List.not_mem_nil
def acK_6 : List (Nat × Nat) := [(288, 1006)]
theorem ack_6_0 : ∀ p ∈ ([(288, 1006)] : List (Nat × Nat)), (fun (c : Nat) (p : Nat × Nat) => Cond.methodLink (kcn c) p.1 arraycopyName ∈ kw) 6 p := List.forall_mem_cons.mpr ⟨kw_tab (tl_in (tb_7 (List.mem_of_getElem? (i := 90) (by decide +kernel)))) rfl, fun _ h => absurd h List.not_mem_nil⟩
theorem ack_6 : ∀ p ∈ acK_6, (fun (c : Nat) (p : Nat × Nat) => Cond.methodLink (kcn c) p.1 arraycopyName ∈ kw) 6 p := by
  show ∀ p ∈ ([(288, 1006)] : List (Nat × Nat)), _
  exact ack_6_0
def acK_7 : List (Nat × Nat) := []
theorem ack_7 : ∀ p ∈ acK_7, (fun (c : Nat) (p : Nat × Nat) => Cond.methodLink (kcn c) p.1 arraycopyName ∈ kw) 7 p := fun _ h => absurd h List.not_mem_nil
def acK_8 : List (Nat × Nat) := []
theorem ack_8 : ∀ p ∈ acK_8, (fun (c : Nat) (p : Nat × Nat) => Cond.methodLink (kcn c) p.1 arraycopyName ∈ kw) 8 p := fun _ h => absurd h List.not_mem_nil
def acK_9 : List (Nat × Nat) := [(181, 1006)]
theorem ack_9_0 : ∀ p ∈ ([(181, 1006)] : List (Nat × Nat)), (fun (c : Nat) (p : Nat × Nat) => Cond.methodLink (kcn c) p.1 arraycopyName ∈ kw) 9 p := List.forall_mem_cons.mpr ⟨kw_tab (tl_in (tb_5 (List.mem_of_getElem? (i := 78) (by decide +kernel)))) rfl, fun _ h => absurd h List.not_mem_nil⟩
theorem ack_9 : ∀ p ∈ acK_9, (fun (c : Nat) (p : Nat × Nat) => Cond.methodLink (kcn c) p.1 arraycopyName ∈ kw) 9 p := by
  show ∀ p ∈ ([(181, 1006)] : List (Nat × Nat)), _
  exact ack_9_0
def acK_10 : List (Nat × Nat) := [(46, 1006)]
theorem ack_10_0 : ∀ p ∈ ([(46, 1006)] : List (Nat × Nat)), (fun (c : Nat) (p : Nat × Nat) => Cond.methodLink (kcn c) p.1 arraycopyName ∈ kw) 10 p := List.forall_mem_cons.mpr ⟨kw_tab (tl_in (tb_6 (List.mem_of_getElem? (i := 99) (by decide +kernel)))) rfl, fun _ h => absurd h List.not_mem_nil⟩
theorem ack_10 : ∀ p ∈ acK_10, (fun (c : Nat) (p : Nat × Nat) => Cond.methodLink (kcn c) p.1 arraycopyName ∈ kw) 10 p := by
  show ∀ p ∈ ([(46, 1006)] : List (Nat × Nat)), _
  exact ack_10_0
def acK_11 : List (Nat × Nat) := [(56, 1006)]
theorem ack_11_0 : ∀ p ∈ ([(56, 1006)] : List (Nat × Nat)), (fun (c : Nat) (p : Nat × Nat) => Cond.methodLink (kcn c) p.1 arraycopyName ∈ kw) 11 p := List.forall_mem_cons.mpr ⟨kw_tab (tl_in (tb_4 (List.mem_of_getElem? (i := 73) (by decide +kernel)))) rfl, fun _ h => absurd h List.not_mem_nil⟩
theorem ack_11 : ∀ p ∈ acK_11, (fun (c : Nat) (p : Nat × Nat) => Cond.methodLink (kcn c) p.1 arraycopyName ∈ kw) 11 p := by
  show ∀ p ∈ ([(56, 1006)] : List (Nat × Nat)), _
  exact ack_11_0
def acK_12 : List (Nat × Nat) := []
theorem ack_12 : ∀ p ∈ acK_12, (fun (c : Nat) (p : Nat × Nat) => Cond.methodLink (kcn c) p.1 arraycopyName ∈ kw) 12 p := fun _ h => absurd h List.not_mem_nil
def acK_13 : List (Nat × Nat) := []
theorem ack_13 : ∀ p ∈ acK_13, (fun (c : Nat) (p : Nat × Nat) => Cond.methodLink (kcn c) p.1 arraycopyName ∈ kw) 13 p := fun _ h => absurd h List.not_mem_nil
def acK_14 : List (Nat × Nat) := []
theorem ack_14 : ∀ p ∈ acK_14, (fun (c : Nat) (p : Nat × Nat) => Cond.methodLink (kcn c) p.1 arraycopyName ∈ kw) 14 p := fun _ h => absurd h List.not_mem_nil
def acK_15 : List (Nat × Nat) := []
theorem ack_15 : ∀ p ∈ acK_15, (fun (c : Nat) (p : Nat × Nat) => Cond.methodLink (kcn c) p.1 arraycopyName ∈ kw) 15 p := fun _ h => absurd h List.not_mem_nil
def acK_16 : List (Nat × Nat) := [(150, 1006)]
theorem ack_16_0 : ∀ p ∈ ([(150, 1006)] : List (Nat × Nat)), (fun (c : Nat) (p : Nat × Nat) => Cond.methodLink (kcn c) p.1 arraycopyName ∈ kw) 16 p := List.forall_mem_cons.mpr ⟨kw_tab (tl_in (tb_3 (List.mem_of_getElem? (i := 33) (by decide +kernel)))) rfl, fun _ h => absurd h List.not_mem_nil⟩
theorem ack_16 : ∀ p ∈ acK_16, (fun (c : Nat) (p : Nat × Nat) => Cond.methodLink (kcn c) p.1 arraycopyName ∈ kw) 16 p := by
  show ∀ p ∈ ([(150, 1006)] : List (Nat × Nat)), _
  exact ack_16_0
def acT : List (List (Nat × Nat)) := [acK_0, acK_1, acK_2, acK_3, acK_4, acK_5, acK_6, acK_7, acK_8, acK_9, acK_10, acK_11, acK_12, acK_13, acK_14, acK_15, acK_16]
theorem acT_all : ∀ c, ∀ p ∈ acT.getD c [], Cond.methodLink (kcn c) p.1 arraycopyName ∈ kw := by
  intro c
  match c with
  | 0 => exact ack_0
  | 1 => exact ack_1
  | 2 => exact ack_2
  | 3 => exact ack_3
  | 4 => exact ack_4
  | 5 => exact ack_5
  | 6 => exact ack_6
  | 7 => exact ack_7
  | 8 => exact ack_8
  | 9 => exact ack_9
  | 10 => exact ack_10
  | 11 => exact ack_11
  | 12 => exact ack_12
  | 13 => exact ack_13
  | 14 => exact ack_14
  | 15 => exact ack_15
  | 16 => exact ack_16
  | c + 17 =>
    intro p hp
    rw [List.getD_eq_getElem?_getD, List.getElem?_eq_none (by show 17 ≤ c + 17; omega)] at hp
    cases hp
end KOKW
