/-! The words of the class's tables, more. -/
section KOKW
def ckK_0 : List (Nat × Nat) := []
theorem ckk_0 : ∀ p ∈ ckK_0, (fun (c : Nat) (p : Nat × Nat) => Cond.classLink (kcn c) p.1 "KeySteward$Value" ∈ kw) 0 p := fun _ h => absurd h List.not_mem_nil
def ckK_1 : List (Nat × Nat) := []
theorem ckk_1 : ∀ p ∈ ckK_1, (fun (c : Nat) (p : Nat × Nat) => Cond.classLink (kcn c) p.1 "KeySteward$Value" ∈ kw) 1 p := fun _ h => absurd h List.not_mem_nil
def ckK_2 : List (Nat × Nat) := []
theorem ckk_2 : ∀ p ∈ ckK_2, (fun (c : Nat) (p : Nat × Nat) => Cond.classLink (kcn c) p.1 "KeySteward$Value" ∈ kw) 2 p := fun _ h => absurd h List.not_mem_nil
def ckK_3 : List (Nat × Nat) := []
theorem ckk_3 : ∀ p ∈ ckK_3, (fun (c : Nat) (p : Nat × Nat) => Cond.classLink (kcn c) p.1 "KeySteward$Value" ∈ kw) 3 p := fun _ h => absurd h List.not_mem_nil
def ckK_4 : List (Nat × Nat) := [(18, 25)]
theorem ckk_4_0 : ∀ p ∈ ([(18, 25)] : List (Nat × Nat)), (fun (c : Nat) (p : Nat × Nat) => Cond.classLink (kcn c) p.1 "KeySteward$Value" ∈ kw) 4 p := List.forall_mem_cons.mpr ⟨kw_tab (tl_in (tb_2 (List.mem_of_getElem? (i := 11) (by decide +kernel)))) rfl, fun _ h => absurd h List.not_mem_nil⟩
theorem ckk_4 : ∀ p ∈ ckK_4, (fun (c : Nat) (p : Nat × Nat) => Cond.classLink (kcn c) p.1 "KeySteward$Value" ∈ kw) 4 p := by
  show ∀ p ∈ ([(18, 25)] : List (Nat × Nat)), _
  exact ckk_4_0
def ckK_5 : List (Nat × Nat) := []
theorem ckk_5 : ∀ p ∈ ckK_5, (fun (c : Nat) (p : Nat × Nat) => Cond.classLink (kcn c) p.1 "KeySteward$Value" ∈ kw) 5 p := fun _ h => absurd h List.not_mem_nil
def ckK_6 : List (Nat × Nat) := []
theorem ckk_6 : ∀ p ∈ ckK_6, (fun (c : Nat) (p : Nat × Nat) => Cond.classLink (kcn c) p.1 "KeySteward$Value" ∈ kw) 6 p := fun _ h => absurd h List.not_mem_nil
def ckK_7 : List (Nat × Nat) := []
theorem ckk_7 : ∀ p ∈ ckK_7, (fun (c : Nat) (p : Nat × Nat) => Cond.classLink (kcn c) p.1 "KeySteward$Value" ∈ kw) 7 p := fun _ h => absurd h List.not_mem_nil
def ckK_8 : List (Nat × Nat) := []
theorem ckk_8 : ∀ p ∈ ckK_8, (fun (c : Nat) (p : Nat × Nat) => Cond.classLink (kcn c) p.1 "KeySteward$Value" ∈ kw) 8 p := fun _ h => absurd h List.not_mem_nil
def ckK_9 : List (Nat × Nat) := []
theorem ckk_9 : ∀ p ∈ ckK_9, (fun (c : Nat) (p : Nat × Nat) => Cond.classLink (kcn c) p.1 "KeySteward$Value" ∈ kw) 9 p := fun _ h => absurd h List.not_mem_nil
def ckK_10 : List (Nat × Nat) := []
theorem ckk_10 : ∀ p ∈ ckK_10, (fun (c : Nat) (p : Nat × Nat) => Cond.classLink (kcn c) p.1 "KeySteward$Value" ∈ kw) 10 p := fun _ h => absurd h List.not_mem_nil
def ckK_11 : List (Nat × Nat) := []
theorem ckk_11 : ∀ p ∈ ckK_11, (fun (c : Nat) (p : Nat × Nat) => Cond.classLink (kcn c) p.1 "KeySteward$Value" ∈ kw) 11 p := fun _ h => absurd h List.not_mem_nil
def ckK_12 : List (Nat × Nat) := []
theorem ckk_12 : ∀ p ∈ ckK_12, (fun (c : Nat) (p : Nat × Nat) => Cond.classLink (kcn c) p.1 "KeySteward$Value" ∈ kw) 12 p := fun _ h => absurd h List.not_mem_nil
def ckK_13 : List (Nat × Nat) := []
theorem ckk_13 : ∀ p ∈ ckK_13, (fun (c : Nat) (p : Nat × Nat) => Cond.classLink (kcn c) p.1 "KeySteward$Value" ∈ kw) 13 p := fun _ h => absurd h List.not_mem_nil
def ckK_14 : List (Nat × Nat) := []
theorem ckk_14 : ∀ p ∈ ckK_14, (fun (c : Nat) (p : Nat × Nat) => Cond.classLink (kcn c) p.1 "KeySteward$Value" ∈ kw) 14 p := fun _ h => absurd h List.not_mem_nil
def ckK_15 : List (Nat × Nat) := []
theorem ckk_15 : ∀ p ∈ ckK_15, (fun (c : Nat) (p : Nat × Nat) => Cond.classLink (kcn c) p.1 "KeySteward$Value" ∈ kw) 15 p := fun _ h => absurd h List.not_mem_nil
def ckK_16 : List (Nat × Nat) := []
theorem ckk_16 : ∀ p ∈ ckK_16, (fun (c : Nat) (p : Nat × Nat) => Cond.classLink (kcn c) p.1 "KeySteward$Value" ∈ kw) 16 p := fun _ h => absurd h List.not_mem_nil
def ckT : List (List (Nat × Nat)) := [ckK_0, ckK_1, ckK_2, ckK_3, ckK_4, ckK_5, ckK_6, ckK_7, ckK_8, ckK_9, ckK_10, ckK_11, ckK_12, ckK_13, ckK_14, ckK_15, ckK_16]
theorem ckT_all : ∀ c, ∀ p ∈ ckT.getD c [], Cond.classLink (kcn c) p.1 "KeySteward$Value" ∈ kw := by
  intro c
  match c with
  | 0 => exact ckk_0
  | 1 => exact ckk_1
  | 2 => exact ckk_2
  | 3 => exact ckk_3
  | 4 => exact ckk_4
  | 5 => exact ckk_5
  | 6 => exact ckk_6
  | 7 => exact ckk_7
  | 8 => exact ckk_8
  | 9 => exact ckk_9
  | 10 => exact ckk_10
  | 11 => exact ckk_11
  | 12 => exact ckk_12
  | 13 => exact ckk_13
  | 14 => exact ckk_14
  | 15 => exact ckk_15
  | 16 => exact ckk_16
  | c + 17 =>
    intro p hp
    rw [List.getD_eq_getElem?_getD, List.getElem?_eq_none (by show 17 ≤ c + 17; omega)] at hp
    cases hp
end KOKW
