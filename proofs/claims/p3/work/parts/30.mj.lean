/-! A reader of the reference's instructions, as a predicate transformer: the reference makes nothing after its constructor, so its world is one object and its rows, at addresses that stay. Refs are handles here: 0 is the object, 1 .. its rows. -/
abbrev mjL : Type := List (Option Value)
abbrev mjS : Type := (Nat → Int32) × (Nat → Int64) × (Nat → Nat → Int32) × (Nat → Nat → Int64)
abbrev mjEn : Type := Nat × Instr × Nat × Int
abbrev mjK : Type := Option Value → mjS → Prop
abbrev mjG : Type := Nat → mjL → List Value → mjS → Prop
abbrev mjQm : Type := Nat → MethodName × ByteArray × Nat × Nat × Nat
def mjKd (h : Nat) : Nat := mjKs.getD h 9
def mjLn (h : Nat) : Nat := mjNs.getD h 0
def mjTc (k : Nat) : Nat := mjTs.getD k 9
def mjR (ad : Nat → Nat) (v : Value) : Value := match v with
  | .ref h => .ref (ad h)
  | w => w
def mjHn (k : Nat) : Nat := mjHs.getD k 0
/-- what a field holds: an int or a boolean, a long, or its row, which stays -/
def mjFv (σ : mjS) (k : Nat) : Value := match mjTc k with
  | 0 => .int (σ.1 k)
  | 1 => .int (σ.1 k)
  | 2 => .long (σ.2.1 k)
  | _ => .ref (mjHn k)
def mjIu (a : Nat → Nat → Int32) (h i : Nat) (v : Int32) : Nat → Nat → Int32 := fun j => if j = h then upd (a h) i v else a j
def mjLu (a : Nat → Nat → Int64) (h i : Nat) (v : Int64) : Nat → Nat → Int64 := fun j => if j = h then vp_updL (a h) i v else a j
def mjE (dA : Nat → ClassId) (ad : Nat → Nat) (σ : mjS) (h : Nat) : va_E := if h = 0 then .inr (10, (List.range 116).map (fun k => mjR ad (mjFv σ k))) else if mjKd h = 3 then .inl (dA 3, mjLn h, .inr (.inl (σ.2.2.2 h))) else .inl (dA (mjKd h), mjLn h, .inl (σ.2.2.1 h))
def mjW (dA : Nat → ClassId) (ad : Nat → Nat) (σ : mjS) : va_W := (List.range mjKs.length).map (fun h => (ad h, mjE dA ad σ h))
def mjTy (dA : Nat → ClassId) : List (ClassId × FieldType) := [(dA 0, .int), (dA 1, .byte), (dA 2, .boolean), (dA 3, .long)]
def mjLen (ins : Instr) : Nat := match ins with
  | .bipush _ => 2
  | .ldc _ => 2
  | .iload _ => 2
  | .lload _ => 2
  | .aload _ => 2
  | .istore _ => 2
  | .lstore _ => 2
  | .astore _ => 2
  | .sipush _ => 3
  | .ldc_w _ => 3
  | .ldc2_w _ => 3
  | .iinc _ _ => 3
  | .getfield _ => 3
  | .putfield _ => 3
  | .if_icmp _ _ => 3
  | .ifCond _ _ => 3
  | .goto _ => 3
  | .invokevirtual _ => 3
  | .invokestatic _ => 3
  | .invokespecial _ => 3
  | .newarray _ => 2
  | _ => 1
def mjRt (t : Nat) : Option FieldType := match t with
  | 0 => none
  | 1 => some .int
  | 2 => some .boolean
  | _ => some .long
def mjNo2 (o : Option Value) : Option Value := match o with
  | some w => if w.category = 2 then none else some w
  | none => none
def mjS1 (i : Nat) (v : Value) : Nat → mjL → mjL
  | _, [] => []
  | k, o :: r => (if k = i then some v else if k + 1 = i then mjNo2 o else o) :: mjS1 i v (k + 1) r
def mjS2 (i : Nat) (v : Value) : Nat → mjL → mjL
  | _, [] => []
  | k, o :: r => (if k = i then some v else if k = i + 1 then none else if k + 1 = i then mjNo2 o else o) :: mjS2 i v (k + 1) r
def mjLs (ad : Nat → Nat) : Nat → mjL → List (Nat × Value)
  | _, [] => []
  | k, none :: r => mjLs ad (k + 1) r
  | k, some v :: r => (k, mjR ad v) :: mjLs ad (k + 1) r
def mjAr : List Value → mjL
  | [] => []
  | v :: r => if v.category = 2 then some v :: none :: mjAr r else some v :: mjAr r
def mjL0 (nL : Nat) (args : List Value) : mjL := mjAr args ++ List.replicate (nL - (mjAr args).length) none
-- what an instruction asks of the stack and of the locals
def mjLdI (k : Nat) (lv : mjL) (g : Int32 → Prop) : Prop := match lv[k]? with
  | some (some (.int v)) => g v
  | _ => False
def mjLdL (k : Nat) (lv : mjL) (g : Int64 → Prop) : Prop := match lv[k]? with
  | some (some (.long v)) => g v
  | _ => False
def mjLdA (k : Nat) (lv : mjL) (g : Nat → Prop) : Prop := match lv[k]? with
  | some (some (.ref v)) => g v
  | _ => False
def mjI1 (st : List Value) (g : Int32 → List Value → Prop) : Prop := match st with
  | .int x :: r => g x r
  | _ => False
def mjJ1 (st : List Value) (g : Int64 → List Value → Prop) : Prop := match st with
  | .long x :: r => g x r
  | _ => False
def mjA1 (st : List Value) (g : Nat → List Value → Prop) : Prop := match st with
  | .ref x :: r => g x r
  | _ => False
def mjI2 (st : List Value) (g : Int32 → Int32 → List Value → Prop) : Prop := match st with
  | .int y :: .int x :: r => g x y r
  | _ => False
def mjJ2 (st : List Value) (g : Int64 → Int64 → List Value → Prop) : Prop := match st with
  | .long y :: .long x :: r => g x y r
  | _ => False
def mjJI (st : List Value) (g : Int64 → Int32 → List Value → Prop) : Prop := match st with
  | .int y :: .long x :: r => g x y r
  | _ => False
def mjIA (st : List Value) (g : Int32 → Nat → List Value → Prop) : Prop := match st with
  | .int j :: .ref h :: r => g j h r
  | _ => False
def mjIIA (st : List Value) (g : Int32 → Int32 → Nat → List Value → Prop) : Prop := match st with
  | .int x :: .int j :: .ref h :: r => g x j h r
  | _ => False
def mjJIA (st : List Value) (g : Int64 → Int32 → Nat → List Value → Prop) : Prop := match st with
  | .long x :: .int j :: .ref h :: r => g x j h r
  | _ => False
def mjDp (st : List Value) (g : Int32 → List Value → Prop) (g2 : Nat → List Value → Prop) : Prop := match st with
  | .int x :: r => g x r
  | .ref x :: r => g2 x r
  | _ => False
def mjPf (st : List Value) (g : Int32 → Nat → List Value → Prop) (g2 : Int64 → Nat → List Value → Prop) : Prop := match st with
  | .int x :: .ref a :: r => g x a r
  | .long x :: .ref a :: r => g2 x a r
  | _ => False
theorem mjDp_x {st : List Value} {g : Int32 → List Value → Prop} {g2 : Nat → List Value → Prop} (h : mjDp st g g2) : (∃ x r, st = .int x :: r ∧ g x r) ∨ ∃ x r, st = .ref x :: r ∧ g2 x r := by
  unfold mjDp at h; split at h
  next x r => exact Or.inl ⟨x, r, rfl, h⟩
  next x r => exact Or.inr ⟨x, r, rfl, h⟩
  next => exact h.elim
theorem mjPf_x {st : List Value} {g : Int32 → Nat → List Value → Prop} {g2 : Int64 → Nat → List Value → Prop} (h : mjPf st g g2) : (∃ x a r, st = .int x :: .ref a :: r ∧ g x a r) ∨ ∃ x a r, st = .long x :: .ref a :: r ∧ g2 x a r := by
  unfold mjPf at h; split at h
  next x a r => exact Or.inl ⟨x, a, r, rfl, h⟩
  next x a r => exact Or.inr ⟨x, a, r, rfl, h⟩
  next => exact h.elim
theorem mjLdI_x {k : Nat} {lv : mjL} {g : Int32 → Prop} (h : mjLdI k lv g) : ∃ v, lv[k]? = some (some (.int v)) ∧ g v := by
  unfold mjLdI at h; split at h
  next v e => exact ⟨v, e, h⟩
  next => exact h.elim
theorem mjLdL_x {k : Nat} {lv : mjL} {g : Int64 → Prop} (h : mjLdL k lv g) : ∃ v, lv[k]? = some (some (.long v)) ∧ g v := by
  unfold mjLdL at h; split at h
  next v e => exact ⟨v, e, h⟩
  next => exact h.elim
theorem mjLdA_x {k : Nat} {lv : mjL} {g : Nat → Prop} (h : mjLdA k lv g) : ∃ v, lv[k]? = some (some (.ref v)) ∧ g v := by
  unfold mjLdA at h; split at h
  next v e => exact ⟨v, e, h⟩
  next => exact h.elim
theorem mjI1_x {st : List Value} {g : Int32 → List Value → Prop} (h : mjI1 st g) : ∃ x r, st = .int x :: r ∧ g x r := by
  unfold mjI1 at h; split at h
  next x r => exact ⟨x, r, rfl, h⟩
  next => exact h.elim
theorem mjJ1_x {st : List Value} {g : Int64 → List Value → Prop} (h : mjJ1 st g) : ∃ x r, st = .long x :: r ∧ g x r := by
  unfold mjJ1 at h; split at h
  next x r => exact ⟨x, r, rfl, h⟩
  next => exact h.elim
theorem mjA1_x {st : List Value} {g : Nat → List Value → Prop} (h : mjA1 st g) : ∃ x r, st = .ref x :: r ∧ g x r := by
  unfold mjA1 at h; split at h
  next x r => exact ⟨x, r, rfl, h⟩
  next => exact h.elim
theorem mjI2_x {st : List Value} {g : Int32 → Int32 → List Value → Prop} (h : mjI2 st g) : ∃ x y r, st = .int y :: .int x :: r ∧ g x y r := by
  unfold mjI2 at h; split at h
  next y x r => exact ⟨x, y, r, rfl, h⟩
  next => exact h.elim
theorem mjJ2_x {st : List Value} {g : Int64 → Int64 → List Value → Prop} (h : mjJ2 st g) : ∃ x y r, st = .long y :: .long x :: r ∧ g x y r := by
  unfold mjJ2 at h; split at h
  next y x r => exact ⟨x, y, r, rfl, h⟩
  next => exact h.elim
theorem mjJI_x {st : List Value} {g : Int64 → Int32 → List Value → Prop} (h : mjJI st g) : ∃ x y r, st = .int y :: .long x :: r ∧ g x y r := by
  unfold mjJI at h; split at h
  next y x r => exact ⟨x, y, r, rfl, h⟩
  next => exact h.elim
theorem mjIA_x {st : List Value} {g : Int32 → Nat → List Value → Prop} (h : mjIA st g) : ∃ j a r, st = .int j :: .ref a :: r ∧ g j a r := by
  unfold mjIA at h; split at h
  next j a r => exact ⟨j, a, r, rfl, h⟩
  next => exact h.elim
theorem mjIIA_x {st : List Value} {g : Int32 → Int32 → Nat → List Value → Prop} (h : mjIIA st g) : ∃ x j a r, st = .int x :: .int j :: .ref a :: r ∧ g x j a r := by
  unfold mjIIA at h; split at h
  next x j a r => exact ⟨x, j, a, r, rfl, h⟩
  next => exact h.elim
theorem mjJIA_x {st : List Value} {g : Int64 → Int32 → Nat → List Value → Prop} (h : mjJIA st g) : ∃ x j a r, st = .long x :: .int j :: .ref a :: r ∧ g x j a r := by
  unfold mjJIA at h; split at h
  next x j a r => exact ⟨x, j, a, r, rfl, h⟩
  next => exact h.elim
/-- the meaning of a condition of a branch -/
def mjCc (c : ClassFile.Cond) (x y : Int32) : Prop := match c with
  | .eq => x = y
  | .ne => ¬ x = y
  | .lt => x < y
  | .ge => y ≤ x
  | .gt => y < x
  | .le => x ≤ y
def mjPush (r : Option Value) (st : List Value) : List Value := match r with
  | some v => v :: st
  | none => st
/-- what the machine keeps by itself: booleans are 0 or 1, bytes are bytes -/
def mjTY (σ : mjS) : Prop := (∀ k, mjTc k = 1 → σ.1 k = 0 ∨ σ.1 k = 1) ∧ (∀ h j, mjKd h = 1 → (σ.2.2.1 h j).toInt8.toInt32 = σ.2.2.1 h j) ∧ ∀ h j, mjKd h = 2 → σ.2.2.1 h j = 0 ∨ σ.2.2.1 h j = 1
theorem mjTY_i {σ : mjS} {x : Nat} {v : Int32} (ty : mjTY σ) (h : mjTc x = 0 ∨ (mjTc x = 1 ∧ (v = 0 ∨ v = 1))) : mjTY (upd σ.1 x v, σ.2) := by
  refine ⟨fun k hk => ?_, ty.2.1, ty.2.2⟩
  by_cases c : k = x
  · subst c
    show upd σ.1 k v k = 0 ∨ upd σ.1 k v k = 1
    rw [pk_us]
    rcases h with h | h
    · rw [h] at hk; exact absurd hk (by decide)
    · exact h.2
  · show upd σ.1 x v k = 0 ∨ upd σ.1 x v k = 1
    rw [pk_un c]; exact ty.1 k hk
theorem mjTY_l {σ : mjS} {x : Nat} {v : Int64} (ty : mjTY σ) : mjTY (σ.1, vp_updL σ.2.1 x v, σ.2.2) := ⟨ty.1, ty.2.1, ty.2.2⟩
theorem mjIu_at {a : Nat → Nat → Int32} {h i g j : Nat} {v : Int32} : mjIu a h i v g j = if g = h ∧ j = i then v else a g j := by
  unfold mjIu
  by_cases c : g = h
  · subst c
    rw [if_pos rfl]
    by_cases cj : j = i
    · subst cj; rw [pk_us, if_pos ⟨rfl, rfl⟩]
    · rw [pk_un cj, if_neg (fun e => cj e.2)]
  · rw [if_neg c, if_neg (fun e => c e.1)]
theorem mjLu_at {a : Nat → Nat → Int64} {h i g j : Nat} {v : Int64} : mjLu a h i v g j = if g = h ∧ j = i then v else a g j := by
  unfold mjLu
  by_cases c : g = h
  · subst c
    rw [if_pos rfl]
    by_cases cj : j = i
    · subst cj; rw [pk_uLs, if_pos ⟨rfl, rfl⟩]
    · rw [pk_uLn cj, if_neg (fun e => cj e.2)]
  · rw [if_neg c, if_neg (fun e => c e.1)]
theorem mjTY_a {σ : mjS} {h i : Nat} {v : Int32} (ty : mjTY σ) (hk : mjKd h = 0 ∨ ((mjKd h = 1 ∧ v.toInt8.toInt32 = v) ∨ (mjKd h = 2 ∧ (v = 0 ∨ v = 1)))) : mjTY (σ.1, σ.2.1, mjIu σ.2.2.1 h i v, σ.2.2.2) := by
  refine ⟨ty.1, fun g j hg => ?_, fun g j hg => ?_⟩
  · show (mjIu σ.2.2.1 h i v g j).toInt8.toInt32 = mjIu σ.2.2.1 h i v g j
    rw [mjIu_at]
    by_cases c : g = h ∧ j = i
    · rw [if_pos c]; rw [c.1] at hg
      rcases hk with k | k | k
      · rw [k] at hg; exact absurd hg (by decide)
      · exact k.2
      · rw [k.1] at hg; exact absurd hg (by decide)
    · rw [if_neg c]; exact ty.2.1 g j hg
  · show mjIu σ.2.2.1 h i v g j = 0 ∨ mjIu σ.2.2.1 h i v g j = 1
    rw [mjIu_at]
    by_cases c : g = h ∧ j = i
    · rw [if_pos c]; rw [c.1] at hg
      rcases hk with k | k | k
      · rw [k] at hg; exact absurd hg (by decide)
      · rw [k.1] at hg; exact absurd hg (by decide)
      · exact k.2
    · rw [if_neg c]; exact ty.2.2 g j hg
theorem mjTY_j {σ : mjS} {x : Nat → Nat → Int64} (ty : mjTY σ) : mjTY (σ.1, σ.2.1, σ.2.2.1, x) := ⟨ty.1, ty.2.1, ty.2.2⟩
/-- one instruction: what must hold ahead of it -/
def mjI (q : mjQm) (rt : Nat) (ins : Instr) (x : Nat) (z : Int) (i : Nat) (lv : mjL) (st : List Value) (σ : mjS) (G : mjG) (C : Nat → List Value → mjS → mjK → Prop) (K : mjK) : Prop := match ins with
  | .iconst n => G (i + 1) lv (.int (Int32.ofInt n) :: st) σ
  | .bipush n => G (i + 1) lv (.int (Int8.ofInt n).toInt32 :: st) σ
  | .sipush n => G (i + 1) lv (.int (Int16.ofInt n).toInt32 :: st) σ
  | .ldc _ => G (i + 1) lv (.int (Int32.ofInt z) :: st) σ
  | .ldc_w _ => G (i + 1) lv (.int (Int32.ofInt z) :: st) σ
  | .ldc2_w _ => G (i + 1) lv (.long (Int64.ofInt z) :: st) σ
  | .lconst n => G (i + 1) lv (.long (Int64.ofNat (n : Nat)) :: st) σ
  | .iload k => mjLdI k lv (fun v => G (i + 1) lv (.int v :: st) σ)
  | .iload_n k => mjLdI k lv (fun v => G (i + 1) lv (.int v :: st) σ)
  | .lload k => mjLdL k lv (fun v => G (i + 1) lv (.long v :: st) σ)
  | .lload_n k => mjLdL k lv (fun v => G (i + 1) lv (.long v :: st) σ)
  | .aload k => mjLdA k lv (fun v => G (i + 1) lv (.ref v :: st) σ)
  | .aload_n k => mjLdA k lv (fun v => G (i + 1) lv (.ref v :: st) σ)
  | .istore k => mjI1 st (fun v r => k < lv.length ∧ G (i + 1) (mjS1 k (.int v) 0 lv) r σ)
  | .istore_n k => mjI1 st (fun v r => (k : Nat) < lv.length ∧ G (i + 1) (mjS1 k (.int v) 0 lv) r σ)
  | .lstore k => mjJ1 st (fun v r => k + 1 < lv.length ∧ G (i + 1) (mjS2 k (.long v) 0 lv) r σ)
  | .lstore_n k => mjJ1 st (fun v r => (k : Nat) + 1 < lv.length ∧ G (i + 1) (mjS2 k (.long v) 0 lv) r σ)
  | .iinc k n => mjLdI k lv (fun v => G (i + 1) (mjS1 k (.int (v + Int32.ofInt n)) 0 lv) st σ)
  | .iadd => mjI2 st (fun a b r => G (i + 1) lv (.int (a + b) :: r) σ)
  | .isub => mjI2 st (fun a b r => G (i + 1) lv (.int (a - b) :: r) σ)
  | .imul => mjI2 st (fun a b r => G (i + 1) lv (.int (a * b) :: r) σ)
  | .iand => mjI2 st (fun a b r => G (i + 1) lv (.int (a &&& b) :: r) σ)
  | .ior => mjI2 st (fun a b r => G (i + 1) lv (.int (a ||| b) :: r) σ)
  | .ixor => mjI2 st (fun a b r => G (i + 1) lv (.int (a ^^^ b) :: r) σ)
  | .ishl => mjI2 st (fun a b r => G (i + 1) lv (.int (a <<< (b &&& 31)) :: r) σ)
  | .ishr => mjI2 st (fun a b r => G (i + 1) lv (.int (a >>> (b &&& 31)) :: r) σ)
  | .idiv => mjI2 st (fun a b r => (¬ b = 0) ∧ G (i + 1) lv (.int (a / b) :: r) σ)
  | .irem => mjI2 st (fun a b r => (¬ b = 0) ∧ G (i + 1) lv (.int (a - a / b * b) :: r) σ)
  | .ineg => mjI1 st (fun a r => G (i + 1) lv (.int (-a) :: r) σ)
  | .ladd => mjJ2 st (fun a b r => G (i + 1) lv (.long (a + b) :: r) σ)
  | .lsub => mjJ2 st (fun a b r => G (i + 1) lv (.long (a - b) :: r) σ)
  | .lmul => mjJ2 st (fun a b r => G (i + 1) lv (.long (a * b) :: r) σ)
  | .land => mjJ2 st (fun a b r => G (i + 1) lv (.long (a &&& b) :: r) σ)
  | .lor => mjJ2 st (fun a b r => G (i + 1) lv (.long (a ||| b) :: r) σ)
  | .lxor => mjJ2 st (fun a b r => G (i + 1) lv (.long (a ^^^ b) :: r) σ)
  | .ldiv => mjJ2 st (fun a b r => (¬ b = 0) ∧ G (i + 1) lv (.long (a / b) :: r) σ)
  | .lrem => mjJ2 st (fun a b r => (¬ b = 0) ∧ G (i + 1) lv (.long (a - a / b * b) :: r) σ)
  | .lneg => mjJ1 st (fun a r => G (i + 1) lv (.long (-a) :: r) σ)
  | .lshl => mjJI st (fun a b r => G (i + 1) lv (.long (a <<< (b.toInt64 &&& 63)) :: r) σ)
  | .lshr => mjJI st (fun a b r => G (i + 1) lv (.long (a >>> (b.toInt64 &&& 63)) :: r) σ)
  | .i2l => mjI1 st (fun a r => G (i + 1) lv (.long a.toInt64 :: r) σ)
  | .i2b => mjI1 st (fun a r => G (i + 1) lv (.int a.toInt8.toInt32 :: r) σ)
  | .l2i => mjJ1 st (fun a r => G (i + 1) lv (.int a.toInt32 :: r) σ)
  | .lcmp => mjJ2 st (fun a b r => G (i + 1) lv (.int (lg_cmp a b) :: r) σ)
  | .dup => mjDp st (fun a r => G (i + 1) lv (.int a :: .int a :: r) σ) (fun a r => G (i + 1) lv (.ref a :: .ref a :: r) σ)
  | .pop => mjI1 st (fun _ r => G (i + 1) lv r σ)
  | .dup2 => mjIA st (fun j a r => G (i + 1) lv (.int j :: .ref a :: .int j :: .ref a :: r) σ)
  | .if_icmp c _ => mjI2 st (fun a b r => (mjCc c a b → G x lv r σ) ∧ (¬ mjCc c a b → G (i + 1) lv r σ))
  | .ifCond c _ => mjI1 st (fun a r => (mjCc c a 0 → G x lv r σ) ∧ (¬ mjCc c a 0 → G (i + 1) lv r σ))
  | .goto _ => G x lv st σ
  | .getfield _ => mjA1 st (fun a r => a = 0 ∧ G (i + 1) lv (mjFv σ x :: r) σ)
  | .putfield _ => mjPf st (fun v a r => a = 0 ∧ (mjTc x = 0 ∨ (mjTc x = 1 ∧ (v = 0 ∨ v = 1))) ∧ (mjTY (upd σ.1 x v, σ.2) → G (i + 1) lv r (upd σ.1 x v, σ.2))) (fun v a r => a = 0 ∧ mjTc x = 2 ∧ (mjTY (σ.1, vp_updL σ.2.1 x v, σ.2.2) → G (i + 1) lv r (σ.1, vp_updL σ.2.1 x v, σ.2.2)))
  | .iaload => mjIA st (fun j h r => mjKd h = 0 ∧ vp_in j (mjLn h) ∧ G (i + 1) lv (.int (σ.2.2.1 h j.toNatClampNeg) :: r) σ)
  | .baload => mjIA st (fun j h r => (mjKd h = 1 ∨ mjKd h = 2) ∧ vp_in j (mjLn h) ∧ G (i + 1) lv (.int (σ.2.2.1 h j.toNatClampNeg) :: r) σ)
  | .laload => mjIA st (fun j h r => mjKd h = 3 ∧ vp_in j (mjLn h) ∧ G (i + 1) lv (.long (σ.2.2.2 h j.toNatClampNeg) :: r) σ)
  | .iastore => mjIIA st (fun v j h r => mjKd h = 0 ∧ vp_in j (mjLn h) ∧ (mjTY (σ.1, σ.2.1, mjIu σ.2.2.1 h j.toNatClampNeg v, σ.2.2.2) → G (i + 1) lv r (σ.1, σ.2.1, mjIu σ.2.2.1 h j.toNatClampNeg v, σ.2.2.2)))
  | .bastore => mjIIA st (fun v j h r => ((mjKd h = 1 ∧ v.toInt8.toInt32 = v) ∨ (mjKd h = 2 ∧ (v = 0 ∨ v = 1))) ∧ vp_in j (mjLn h) ∧ (mjTY (σ.1, σ.2.1, mjIu σ.2.2.1 h j.toNatClampNeg v, σ.2.2.2) → G (i + 1) lv r (σ.1, σ.2.1, mjIu σ.2.2.1 h j.toNatClampNeg v, σ.2.2.2)))
  | .lastore => mjJIA st (fun v j h r => mjKd h = 3 ∧ vp_in j (mjLn h) ∧ (mjTY (σ.1, σ.2.1, σ.2.2.1, mjLu σ.2.2.2 h j.toNatClampNeg v) → G (i + 1) lv r (σ.1, σ.2.1, σ.2.2.1, mjLu σ.2.2.2 h j.toNatClampNeg v)))
  | .invokevirtual _ => (q x).2.2.1 ≤ st.length ∧ mjA1 (st.drop (q x).2.2.1) (fun a r => a = 0 ∧ (r.map fun v => v.category).sum ≤ 8 ∧ C x (.ref 0 :: (st.take (q x).2.2.1).reverse) σ (fun v σ' => mjTY σ' → G (i + 1) lv (mjPush v r) σ'))
  | .invokestatic _ => (q x).2.2.1 ≤ st.length ∧ ((st.drop (q x).2.2.1).map fun v => v.category).sum ≤ 8 ∧ C x (st.take (q x).2.2.1).reverse σ (fun v σ' => mjTY σ' → G (i + 1) lv (mjPush v (st.drop (q x).2.2.1)) σ')
  | .ireturn => mjI1 st (fun v r => r = [] ∧ (rt = 1 ∨ (rt = 2 ∧ (v = 0 ∨ v = 1))) ∧ K (some (.int v)) σ)
  | .lreturn => mjJ1 st (fun v r => r = [] ∧ rt = 3 ∧ K (some (.long v)) σ)
  | .return_ => st = [] ∧ rt = 0 ∧ K none σ
  | _ => False
/-- a call goes one deeper -/
def mjCl (q : mjQm) (X : Nat → Nat → mjL → mjS → mjK → Prop) (d x : Nat) (ar : List Value) (σ : mjS) (K : mjK) : Prop := match d with
  | 0 => False
  | d' + 1 => (mjAr ar).length ≤ (q x).2.2.2.1 ∧ X d' x (mjL0 (q x).2.2.2.1 ar) σ K
/-- so many steps, so deep calls -/
def mjX (P : Nat → List mjEn) (q : mjQm) : Nat → Nat → Nat → Nat → mjL → List Value → mjS → mjK → Prop
  | 0, _, _, _, _, _, _, _ => False
  | f + 1, d, m, i, lv, st, σ, K => match (P m)[i]? with
    | none => False
    | some (_, ins, x, z) => mjI q (q m).2.2.2.2 ins x z i lv st σ (fun i lv st σ => mjX P q f d m i lv st σ K) (mjCl q (fun d' x' lv σ K' => mjX P q f d' x' 0 lv [] σ K') d) K
-- lists of locals
theorem mjR_cat (ad : Nat → Nat) (v : Value) : (mjR ad v).category = v.category := by cases v <;> rfl
theorem mjLs_get {ad : Nat → Nat} {v : Value} : ∀ {lv : mjL} {j : Nat} (k : Nat), lv[j]? = some (some v) → (k + j, mjR ad v) ∈ mjLs ad k lv := by
  intro lv
  induction lv with
  | nil => intro j k h; cases j <;> cases h
  | cons o r ih =>
    intro j k h
    cases j with
    | zero =>
      have e : o = some v := by simpa using h
      subst e
      exact List.mem_cons_self
    | succ j =>
      have h' : r[j]? = some (some v) := by simpa using h
      have q := ih (k + 1) h'
      rw [show k + 1 + j = k + (j + 1) by omega] at q
      cases o with
      | none => exact q
      | some w => exact List.mem_cons_of_mem _ q
theorem mjLs_ge {ad : Nat → Nat} : ∀ {lv : mjL} {k j : Nat} {w : Value}, (j, w) ∈ mjLs ad k lv → k ≤ j := by
  intro lv
  induction lv with
  | nil => intro k j w h; cases h
  | cons o r ih =>
    intro k j w h
    cases o with
    | none => exact Nat.le_of_succ_le (ih (k := k + 1) h)
    | some v =>
      rcases List.mem_cons.mp h with e | h
      · cases e; exact Nat.le_refl _
      · exact Nat.le_of_succ_le (ih (k := k + 1) h)
theorem mjS1_len {i : Nat} {v : Value} : ∀ {lv : mjL} {k : Nat}, (mjS1 i v k lv).length = lv.length := by
  intro lv
  induction lv with
  | nil => intro k; rfl
  | cons o r ih => intro k; exact congrArg (· + 1) (ih (k := k + 1))
theorem mjS2_len {i : Nat} {v : Value} : ∀ {lv : mjL} {k : Nat}, (mjS2 i v k lv).length = lv.length := by
  intro lv
  induction lv with
  | nil => intro k; rfl
  | cons o r ih => intro k; exact congrArg (· + 1) (ih (k := k + 1))
theorem mjLs_cons {ad : Nat → Nat} {k : Nat} {o : Option Value} {r : mjL} {p : Nat × Value} : p ∈ mjLs ad k (o :: r) ↔ (∃ v, o = some v ∧ p = (k, mjR ad v)) ∨ p ∈ mjLs ad (k + 1) r := by
  cases o with
  | none => exact ⟨fun h => Or.inr h, fun h => h.elim (fun ⟨v, e, _⟩ => by cases e) id⟩
  | some v =>
    constructor
    · intro h
      rcases List.mem_cons.mp h with e | h
      · exact Or.inl ⟨v, rfl, e⟩
      · exact Or.inr h
    · rintro (⟨w, e, h⟩ | h)
      · cases e; rw [h]; exact List.mem_cons_self
      · exact List.mem_cons_of_mem _ h
theorem mjNo2_x {o : Option Value} {v : Value} (h : mjNo2 o = some v) : o = some v ∧ ¬ v.category = 2 := by
  cases o with
  | none => cases h
  | some w =>
    have h : (if w.category = 2 then none else some w) = some v := h
    by_cases c : w.category = 2
    · rw [if_pos c] at h; cases h
    · rw [if_neg c] at h; cases h; exact ⟨rfl, c⟩
theorem mjS1_sub {ad : Nat → Nat} {i : Nat} {v : Value} : ∀ {lv : mjL} {k j : Nat} {w : Value}, (j, w) ∈ mjLs ad k (mjS1 i v k lv) → (j = i ∧ w = mjR ad v) ∨ ((j, w) ∈ mjLs ad k lv ∧ j ≠ i ∧ ¬ (j + 1 = i ∧ w.category = 2)) := by
  intro lv
  induction lv with
  | nil => intro k j w h; cases h
  | cons o r ih =>
    intro k j w h
    rcases mjLs_cons.mp h with ⟨u, e, eq⟩ | h
    · cases eq
      by_cases c1 : k = i
      · rw [if_pos c1] at e; cases e; exact Or.inl ⟨c1, rfl⟩
      · rw [if_neg c1] at e
        by_cases c2 : k + 1 = i
        · rw [if_pos c2] at e
          obtain ⟨e1, e2⟩ := mjNo2_x e
          exact Or.inr ⟨mjLs_cons.mpr (Or.inl ⟨u, e1, rfl⟩), c1, fun q => e2 (by rw [← mjR_cat ad u]; exact q.2)⟩
        · rw [if_neg c2] at e
          exact Or.inr ⟨mjLs_cons.mpr (Or.inl ⟨u, e, rfl⟩), c1, fun q => c2 q.1⟩
    · rcases ih h with q | ⟨q1, q2⟩
      · exact Or.inl q
      · exact Or.inr ⟨mjLs_cons.mpr (Or.inr q1), q2⟩
theorem mjS2_sub {ad : Nat → Nat} {i : Nat} {v : Value} : ∀ {lv : mjL} {k j : Nat} {w : Value}, (j, w) ∈ mjLs ad k (mjS2 i v k lv) → (j = i ∧ w = mjR ad v) ∨ ((j, w) ∈ mjLs ad k lv ∧ j ≠ i ∧ j ≠ i + 1 ∧ ¬ (j + 1 = i ∧ w.category = 2)) := by
  intro lv
  induction lv with
  | nil => intro k j w h; cases h
  | cons o r ih =>
    intro k j w h
    rcases mjLs_cons.mp h with ⟨u, e, eq⟩ | h
    · cases eq
      by_cases c1 : k = i
      · rw [if_pos c1] at e; cases e; exact Or.inl ⟨c1, rfl⟩
      · rw [if_neg c1] at e
        by_cases c3 : k = i + 1
        · rw [if_pos c3] at e; cases e
        · rw [if_neg c3] at e
          by_cases c2 : k + 1 = i
          · rw [if_pos c2] at e
            obtain ⟨e1, e2⟩ := mjNo2_x e
            exact Or.inr ⟨mjLs_cons.mpr (Or.inl ⟨u, e1, rfl⟩), c1, c3, fun q => e2 (by rw [← mjR_cat ad u]; exact q.2)⟩
          · rw [if_neg c2] at e
            exact Or.inr ⟨mjLs_cons.mpr (Or.inl ⟨u, e, rfl⟩), c1, c3, fun q => c2 q.1⟩
    · rcases ih h with q | ⟨q1, q2⟩
      · exact Or.inl q
      · exact Or.inr ⟨mjLs_cons.mpr (Or.inr q1), q2⟩
theorem mjS1_has {ad : Nat → Nat} {ls : Array Slot} {nL i : Nat} {v : Value} {lv : mjL} (h : lv_has ls nL ((i, mjR ad v) :: (mjLs ad 0 lv).filter (fun q => !(q.1 == i) && !(q.1 + 1 == i && q.2.category == 2)))) : lv_has ls nL (mjLs ad 0 (mjS1 i v 0 lv)) := by
  refine ⟨h.1, h.2.1, fun q hq => h.2.2 q ?_⟩
  obtain ⟨j, w⟩ := q
  rcases mjS1_sub hq with ⟨e1, e2⟩ | ⟨q1, q2, q3⟩
  · rw [e1, e2]; exact List.mem_cons_self
  · refine List.mem_cons_of_mem _ (List.mem_filter.mpr ⟨q1, ?_⟩)
    simp only [Bool.and_eq_true, Bool.not_eq_true', beq_eq_false_iff_ne, ne_eq, Bool.and_eq_false_iff]
    refine ⟨q2, ?_⟩
    by_cases c : j + 1 = i
    · exact Or.inr (fun e => q3 ⟨c, e⟩)
    · exact Or.inl c
theorem mjS2_has {ad : Nat → Nat} {ls : Array Slot} {nL i : Nat} {v : Value} {lv : mjL} (h : lv_has ls nL ((i, mjR ad v) :: (mjLs ad 0 lv).filter (fun q => !(q.1 == i) && (!(q.1 == i + 1) && !(q.1 + 1 == i && q.2.category == 2))))) : lv_has ls nL (mjLs ad 0 (mjS2 i v 0 lv)) := by
  refine ⟨h.1, h.2.1, fun q hq => h.2.2 q ?_⟩
  obtain ⟨j, w⟩ := q
  rcases mjS2_sub hq with ⟨e1, e2⟩ | ⟨q1, q2, q4, q3⟩
  · rw [e1, e2]; exact List.mem_cons_self
  · refine List.mem_cons_of_mem _ (List.mem_filter.mpr ⟨q1, ?_⟩)
    simp only [Bool.and_eq_true, Bool.not_eq_true', beq_eq_false_iff_ne, ne_eq, Bool.and_eq_false_iff]
    refine ⟨q2, q4, ?_⟩
    by_cases c : j + 1 = i
    · exact Or.inr (fun e => q3 ⟨c, e⟩)
    · exact Or.inl c
theorem mjLd_at {ad : Nat → Nat} {ls : Array Slot} {nL k : Nat} {v : Value} {lv : mjL} (h : lv_has ls nL (mjLs ad 0 lv)) (e : lv[k]? = some (some v)) : ls[k]? = some (.val (mjR ad v)) := by
  have q := mjLs_get (ad := ad) 0 e
  rw [Nat.zero_add] at q
  exact h.2.2 _ q
theorem mjLs_app {ad : Nat → Nat} : ∀ {a b : mjL} {k : Nat} {p : Nat × Value}, p ∈ mjLs ad k (a ++ b) → p ∈ mjLs ad k a ∨ p ∈ mjLs ad (k + a.length) b := by
  intro a b
  induction a with
  | nil => intro k p h; exact Or.inr h
  | cons o r ih =>
    intro k p h
    rcases mjLs_cons.mp h with q | q
    · exact Or.inl (mjLs_cons.mpr (Or.inl q))
    · rcases ih q with q | q
      · exact Or.inl (mjLs_cons.mpr (Or.inr q))
      · right; rw [List.length_cons, show k + (r.length + 1) = k + 1 + r.length by omega]; exact q
theorem mjLs_none {ad : Nat → Nat} : ∀ {n k : Nat} {p : Nat × Value}, ¬ p ∈ mjLs ad k (List.replicate n none) := by
  intro n
  induction n with
  | zero => intro k p h; cases h
  | succ n ih => intro k p h; exact ih (k := k + 1) h
theorem mjAr_sub {ad : Nat → Nat} : ∀ {vs : List Value} {k : Nat} {p : Nat × Value}, p ∈ mjLs ad k (mjAr vs) → p ∈ lv_args k (vs.map (mjR ad)) := by
  intro vs
  induction vs with
  | nil => intro k p h; cases h
  | cons v r ih =>
    intro k p h
    show p ∈ (k, mjR ad v) :: lv_args (if (mjR ad v).category = 2 then k + 2 else k + 1) (r.map (mjR ad))
    rw [mjR_cat]
    unfold mjAr at h
    by_cases c : v.category = 2
    · rw [if_pos c] at h ⊢
      rcases mjLs_cons.mp h with ⟨u, e, q⟩ | h
      · cases e; rw [q]; exact List.mem_cons_self
      · exact List.mem_cons_of_mem _ (ih (k := k + 2) h)
    · rw [if_neg c] at h ⊢
      rcases mjLs_cons.mp h with ⟨u, e, q⟩ | h
      · cases e; rw [q]; exact List.mem_cons_self
      · exact List.mem_cons_of_mem _ (ih h)
theorem mjL0_has {ad : Nat → Nat} {ls : Array Slot} {n : Nat} {vs : List Value} (h : lv_has ls n (lv_args 0 (vs.map (mjR ad)))) : lv_has ls n (mjLs ad 0 (mjL0 n vs)) :=
  ⟨h.1, h.2.1, fun q hq => h.2.2 q ((mjLs_app hq).elim mjAr_sub (fun z => absurd z mjLs_none))⟩
