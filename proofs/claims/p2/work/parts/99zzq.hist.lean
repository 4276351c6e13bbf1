/-! The log as a list of blocks, and what stands between two requests. -/
section HIST
variable {Y : Nat → MethodName × ByteArray} {d : Nat}
abbrev Blk : Type := Bool × List Req
def enE : List Blk → List Int32
  | [] => []
  | x :: r => blkB x.1 x.2 ++ enE r
theorem enE_app (a b : List Blk) : enE (a ++ b) = enE a ++ enE b := by
  induction a with
  | nil => rfl
  | cons x r ih => show blkB x.1 x.2 ++ enE (r ++ b) = blkB x.1 x.2 ++ enE r ++ enE b; rw [ih, List.append_assoc]
/-- the blocks lead from one list to another -/
def LG (P : Nat) : List AK → List Blk → List AK → Prop
  | A, [], A' => A' = A
  | A, x :: r, A' => x.2 ≠ [] ∧ (x.1 = false → x.2.length ≤ 1) ∧ ∃ B, LC P A x.2 B ∧ LG P B r A'
theorem LG_app {P : Nat} : ∀ {E F : List Blk} {A B C : List AK}, LG P A E B → LG P B F C → LG P A (E ++ F) C := by
  intro E
  induction E with
  | nil => intro F A B C h g; have h : B = A := h; rw [← h]; exact g
  | cons x r ih => intro F A B C h g; obtain ⟨h1, h2, D, h3, h4⟩ := h; exact ⟨h1, h2, D, h3, ih h4 g⟩
theorem LG_less {p q : Nat} (hq : q ≤ p) : ∀ {E : List Blk} {A B : List AK}, LG p A E B → LG q A E B := by
  intro E
  induction E with
  | nil => intro A B h; exact h
  | cons x r ih => intro A B h; obtain ⟨h1, h2, D, h3, h4⟩ := h; exact ⟨h1, h2, D, LC_less hq h3, ih h4⟩
/-- the disk holds the log of the list -/
def HI (σ : mjS) (A : List AK) (P : Nat) : Prop := ∃ E, DKs σ (enE E) ∧ LG P [] E A ∧ LI A P ∧ (enE E).length + (kap A + 50 * P) ≤ 650000
/-- the disk holds the log of a list, and a part of one block more -/
def HD (σ : mjS) (P : Nat) : Prop := ∃ E A b ns n B, DKs σ (enE E ++ (blkB b ns).take n) ∧ LG P [] E A ∧ LI A P ∧ LC P A ns B ∧ LI B P ∧ (b = false → ns.length ≤ 1) ∧ (enE E).length + (kap A + 50 * P) ≤ 650000 ∧ (enE E).length + ((blkB b ns).length + kap B + 50 * P) ≤ 650000
theorem HI_app {u : mjS} {E : List Blk} {A B : List AK} {P P' : Nat} {b : Bool} {ns : List Req} (hE : LG P [] E A) (hc : (enE E).length + (kap A + 50 * P) ≤ 650000) (hp : P' ≤ P) (hD : DKs u (enE E ++ blkB b ns)) (hL : LI B P') (hC : LC P' A ns B) (hb : b = false → ns.length ≤ 1) (hk : (blkB b ns).length + kap B + 50 * P' ≤ kap A + 50 * P) : HI u B P' := by
  by_cases z : ns = []
  · subst z
    have e : B = A := hC
    have e0 : blkB b [] = [] := by unfold blkB; rw [if_pos rfl]
    rw [e0, List.append_nil] at hD
    subst e
    exact ⟨E, hD, LG_less hp hE, hL, by omega⟩
  · have e : enE (E ++ [(b, ns)]) = enE E ++ blkB b ns := by
      rw [enE_app]; show enE E ++ (blkB b ns ++ []) = _; rw [List.append_nil]
    refine ⟨E ++ [(b, ns)], by rw [e]; exact hD, LG_app (LG_less hp hE) ⟨z, hb, B, hC, rfl⟩, hL, ?_⟩
    rw [e, List.length_append]; omega
theorem HD_app {u : mjS} {E : List Blk} {A B : List AK} {P P' n : Nat} {b : Bool} {ns : List Req} (hE : LG P [] E A) (hA : LI A P) (hc : (enE E).length + (kap A + 50 * P) ≤ 650000) (hp : P' ≤ P) (hD : DKs u (enE E ++ (blkB b ns).take n)) (hL : LI B P') (hC : LC P' A ns B) (hb : b = false → ns.length ≤ 1) (hk : (blkB b ns).length + kap B + 50 * P' ≤ kap A + 50 * P) : HD u P' :=
  ⟨E, A, b, ns, n, B, hD, LG_less hp hE, hA.less hp, hC, hL, hb, by omega, by omega⟩
end HIST
