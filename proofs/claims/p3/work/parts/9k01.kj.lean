/-! A second reader, for the class: objects and rows by handles, things that are made, calls on any object. -/
/-- ints by thing and place; longs; references; kind and length; how many things; cells and slots that are left -/
abbrev kS : Type := (Nat → Nat → Int32) × (Nat → Nat → Int64) × (Nat → Nat → Option Nat) × (Nat → Nat × Nat) × Nat × Nat × Nat
abbrev kK : Type := Option Value → kS → Prop
abbrev kG : Type := Nat → mjL → List Value → kS → Prop
/-- a method: name, code, parameters, locals, answer, class -/
abbrev kQm : Type := Nat → MethodName × ByteArray × Nat × Nat × Nat × Nat
def kNf (c : Nat) : Nat := kNs.getD c 0
def kT (x : Nat) : Nat × Nat × Nat := kTs.getD x (9, 0, 0)
def kd0 (h : Nat) : Nat × Nat := kK0.getD h (99, 0)
def kCmd (k : Nat) : Int32 × Int32 × Int32 × Int32 × Nat × Int32 := kCms.getD k (0, 0, 0, 0, 0, 0)
def kTx (i : Nat) : String × Nat × String × List Int32 := kStr.getD i ("", 0, "", [])
/-- a handle of a command, of a text -/
def kCm (g : Nat) : Prop := ∃ k, k < 105 ∧ g = 1000000 + k
def kSt (g : Nat) : Prop := ∃ i, i < 185 ∧ g = 2000000 + i
def kFv (σ : kS) (c h x : Nat) : Value := match (kT (32 * c + x)).1 with
  | 0 => .int (σ.1 h x)
  | 1 => .int (σ.1 h x)
  | 8 => .int (σ.1 h x)
  | 2 => .long (σ.2.1 h x)
  | _ => va_rf (σ.2.2.1 h x)
def kUp {α : Type} (a : Nat → α) (h : Nat) (f : α) : Nat → α := fun j => if j = h then f else a j
theorem kUp_s {α : Type} {a : Nat → α} {h : Nat} {f : α} : kUp a h f h = f := if_pos rfl
theorem kUp_n {α : Type} {a : Nat → α} {h j : Nat} {f : α} (e : ¬ j = h) : kUp a h f j = a j := if_neg e
def kFu (a : Nat → Nat → Option Nat) (h i : Nat) (v : Option Nat) : Nat → Nat → Option Nat := kUp a h (va_up (a h) i v)
/-- what a thing is, for the machine -/
def kE (dA : Nat → ClassId) (ad : Nat → Nat) (σ : kS) (h : Nat) : va_E :=
  if (σ.2.2.2.1 h).1 < 20 then .inr ((σ.2.2.2.1 h).1, (List.range (kNf (σ.2.2.2.1 h).1)).map (fun x => mjR ad (kFv σ (σ.2.2.2.1 h).1 h x)))
  else if (σ.2.2.2.1 h).1 < 23 then .inl (dA (σ.2.2.2.1 h).1, (σ.2.2.2.1 h).2, .inl (σ.1 h))
  else if (σ.2.2.2.1 h).1 = 23 then .inl (dA 23, (σ.2.2.2.1 h).2, .inr (.inl (σ.2.1 h)))
  else .inl (dA (σ.2.2.2.1 h).1, (σ.2.2.2.1 h).2, .inr (.inr (.inr (.inr (fun j => (σ.2.2.1 h j).map ad)))))
def kW (dA : Nat → ClassId) (ad : Nat → Nat) (σ : kS) : va_W := (List.range σ.2.2.2.2.1).map (fun h => (ad h, kE dA ad σ h))
def kTyp (dA : Nat → ClassId) : List (ClassId × FieldType) := [(dA 20, .int), (dA 21, .byte), (dA 23, .long), (dA 24, .object "KeySteward$Connection"), (dA 25, .object "KeySteward$Value")]
/-- a field that holds a reference -/
def kRk (σ : kS) (h x : Nat) (c : Nat × Nat × Nat) : Prop := match c.1 with
  | 3 => σ.2.2.1 h x = some c.2.1 ∧ (σ.2.2.2.1 c.2.1).1 = c.2.2
  | 4 => σ.2.2.1 h x = some (h + c.2.1) ∧ (σ.2.2.2.1 (h + c.2.1)).1 = c.2.2
  | 5 => ∃ g, σ.2.2.1 h x = some g ∧ (σ.2.2.2.1 g).1 = c.2.2
  | 6 => ∀ g, σ.2.2.1 h x = some g → kCm g
  | 7 => ∀ g, σ.2.2.1 h x = some g → kSt g
  | _ => True
/-- what the machine keeps by itself -/
def kTY (σ : kS) : Prop :=
  (∀ h x, (σ.2.2.2.1 h).1 < 20 → (kT (32 * (σ.2.2.2.1 h).1 + x)).1 = 1 → σ.1 h x = 0 ∨ σ.1 h x = 1) ∧
  (∀ h j, (σ.2.2.2.1 h).1 = 21 → (σ.1 h j).toInt8.toInt32 = σ.1 h j) ∧
  (∀ h, h < 76 → σ.2.2.2.1 h = kd0 h) ∧ 76 ≤ σ.2.2.2.2.1 ∧ σ.2.2.2.2.1 + σ.2.2.2.2.2.1 < 1000000 ∧
  (∀ h, σ.2.2.2.2.1 ≤ h → σ.2.2.2.1 h = (99, 0)) ∧ (∀ h, (σ.2.2.2.1 h).2 < 2 ^ 31) ∧
  (∀ h x, (σ.2.2.2.1 h).1 < 20 → x < kNf (σ.2.2.2.1 h).1 → kRk σ h x (kT (32 * (σ.2.2.2.1 h).1 + x))) ∧
  (∀ h j g, (σ.2.2.2.1 h).1 = 25 → σ.2.2.1 h j = some g → (σ.2.2.2.1 g).1 = 11) ∧
  (∀ j, j < 4 → σ.2.2.1 11 j = some (12 + 9 * j))
/-- what is later: nothing goes, things may have been made -/
def kEx (σ u : kS) : Prop := σ.2.2.2.2.1 ≤ u.2.2.2.2.1 ∧ (∀ h, h < σ.2.2.2.2.1 → u.2.2.2.1 h = σ.2.2.2.1 h) ∧ u.2.2.2.2.1 + u.2.2.2.2.2.1 = σ.2.2.2.2.1 + σ.2.2.2.2.2.1 ∧ u.2.2.2.2.2.2 ≤ σ.2.2.2.2.2.2
theorem kEx.rf {σ : kS} : kEx σ σ := ⟨Nat.le_refl _, fun _ _ => rfl, rfl, Nat.le_refl _⟩
theorem kEx.tr {σ u v : kS} (a : kEx σ u) (b : kEx u v) : kEx σ v := ⟨Nat.le_trans a.1 b.1, fun h hh => (b.2.1 h (Nat.lt_of_lt_of_le hh a.1)).trans (a.2.1 h hh), b.2.2.1.trans a.2.2.1, Nat.le_trans b.2.2.2 a.2.2.2⟩
/-- a new row, a new value -/
def kNew (σ : kS) (k N : Nat) : kS := (kUp σ.1 σ.2.2.2.2.1 (fun _ => 0), kUp σ.2.1 σ.2.2.2.2.1 (fun _ => 0), kUp σ.2.2.1 σ.2.2.2.2.1 (fun _ => none), kUp σ.2.2.2.1 σ.2.2.2.2.1 (k, N), σ.2.2.2.2.1 + 1, σ.2.2.2.2.2.1 - 1, σ.2.2.2.2.2.2 - N)
def kVal (σ : kS) : kS := (kUp σ.1 σ.2.2.2.2.1 (fun _ => 0), kUp σ.2.1 σ.2.2.2.2.1 (vp_updL (fun _ => 0) 3 9223372036854775807), kUp σ.2.2.1 σ.2.2.2.2.1 (va_up (fun _ => none) 0 (some 59)), kUp σ.2.2.2.1 σ.2.2.2.2.1 (11, 0), σ.2.2.2.2.1 + 1, σ.2.2.2.2.2.1 - 1, σ.2.2.2.2.2.2 - 9)
def kLen (ins : Instr) (z : Int) : Nat := match ins with
  | .tableswitch _ _ _ _ => z.toNat
  | .getstatic _ => 3
  | .new _ => 3
  | .anewarray _ => 3
  | .checkcast _ => 3
  | .ifnull _ => 3
  | .ifnonnull _ => 3
  | .if_acmp _ _ => 3
  | i => mjLen i
def kRt (t : Nat) : Option FieldType := match t with
  | 0 => none
  | 1 => some .int
  | 2 => some .boolean
  | 3 => some .long
  | 5 => some .char
  | 6 => some .byte
  | 10 => some (.object "KeySteward$Connection")
  | 11 => some (.object "KeySteward$Command")
  | 12 => some (.object "KeySteward$Value")
  | 13 => some (.array .byte)
  | _ => some (.array .int)
-- what an instruction asks of the stack and of the locals
def kLdA (k : Nat) (lv : mjL) (g : Value → Prop) : Prop := match lv[k]? with
  | some (some (.ref v)) => g (.ref v)
  | some (some .null) => g .null
  | _ => False
def kR1 (st : List Value) (g : Nat → List Value → Prop) (g0 : List Value → Prop) : Prop := match st with
  | .ref x :: r => g x r
  | .null :: r => g0 r
  | _ => False
def kA2 (st : List Value) (g : Nat → Nat → List Value → Prop) : Prop := match st with
  | .ref y :: .ref x :: r => g x y r
  | _ => False
def kAIA (st : List Value) (g : Nat → Int32 → Nat → List Value → Prop) : Prop := match st with
  | .ref x :: .int j :: .ref h :: r => g x j h r
  | _ => False
def kCpy (st : List Value) (g : Nat → Int32 → Nat → Int32 → Int32 → List Value → Prop) : Prop := match st with
  | .int n :: .int dp :: .ref d :: .int sp :: .ref s :: r => g s sp d dp n r
  | _ => False
def kPf (st : List Value) (g : Int32 → Nat → List Value → Prop) (g2 : Int64 → Nat → List Value → Prop) (g3 : Nat → Nat → List Value → Prop) (g4 : Nat → List Value → Prop) : Prop := match st with
  | .int x :: .ref a :: r => g x a r
  | .long x :: .ref a :: r => g2 x a r
  | .ref x :: .ref a :: r => g3 x a r
  | .null :: .ref a :: r => g4 a r
  | _ => False
theorem kLdA_x {k : Nat} {lv : mjL} {g : Value → Prop} (h : kLdA k lv g) : (∃ v, lv[k]? = some (some (.ref v)) ∧ g (.ref v)) ∨ (lv[k]? = some (some .null) ∧ g .null) := by
  unfold kLdA at h; split at h
  next v e => exact Or.inl ⟨v, e, h⟩
  next e => exact Or.inr ⟨e, h⟩
  next => exact h.elim
theorem kR1_x {st : List Value} {g : Nat → List Value → Prop} {g0 : List Value → Prop} (h : kR1 st g g0) : (∃ x r, st = .ref x :: r ∧ g x r) ∨ ∃ r, st = .null :: r ∧ g0 r := by
  unfold kR1 at h; split at h
  next x r => exact Or.inl ⟨x, r, rfl, h⟩
  next r => exact Or.inr ⟨r, rfl, h⟩
  next => exact h.elim
theorem kA2_x {st : List Value} {g : Nat → Nat → List Value → Prop} (h : kA2 st g) : ∃ x y r, st = .ref y :: .ref x :: r ∧ g x y r := by
  unfold kA2 at h; split at h
  next y x r => exact ⟨x, y, r, rfl, h⟩
  next => exact h.elim
theorem kAIA_x {st : List Value} {g : Nat → Int32 → Nat → List Value → Prop} (h : kAIA st g) : ∃ x j a r, st = .ref x :: .int j :: .ref a :: r ∧ g x j a r := by
  unfold kAIA at h; split at h
  next x j a r => exact ⟨x, j, a, r, rfl, h⟩
  next => exact h.elim
theorem kCpy_x {st : List Value} {g : Nat → Int32 → Nat → Int32 → Int32 → List Value → Prop} (h : kCpy st g) : ∃ s sp d dp n r, st = .int n :: .int dp :: .ref d :: .int sp :: .ref s :: r ∧ g s sp d dp n r := by
  unfold kCpy at h; split at h
  next n dp d sp s r => exact ⟨s, sp, d, dp, n, r, rfl, h⟩
  next => exact h.elim
theorem kPf_x {st : List Value} {g : Int32 → Nat → List Value → Prop} {g2 : Int64 → Nat → List Value → Prop} {g3 : Nat → Nat → List Value → Prop} {g4 : Nat → List Value → Prop} (h : kPf st g g2 g3 g4) : (∃ x a r, st = .int x :: .ref a :: r ∧ g x a r) ∨ (∃ x a r, st = .long x :: .ref a :: r ∧ g2 x a r) ∨ (∃ x a r, st = .ref x :: .ref a :: r ∧ g3 x a r) ∨ ∃ a r, st = .null :: .ref a :: r ∧ g4 a r := by
  unfold kPf at h; split at h
  next x a r => exact Or.inl ⟨x, a, r, rfl, h⟩
  next x a r => exact Or.inr (Or.inl ⟨x, a, r, rfl, h⟩)
  next x a r => exact Or.inr (Or.inr (Or.inl ⟨x, a, r, rfl, h⟩))
  next a r => exact Or.inr (Or.inr (Or.inr ⟨a, r, rfl, h⟩))
  next => exact h.elim
/-- a receiver of a class: 50 a command, 51 a text -/
def kRc (σ : kS) (a c : Nat) : Prop := (c < 20 ∧ (σ.2.2.2.1 a).1 = c) ∨ (c = 50 ∧ kCm a) ∨ (c = 51 ∧ kSt a)
/-- a field of a command or of a text -/
def kOf (x a : Nat) (v : Value) : Prop :=
  (∃ k, k < 105 ∧ a = 1000000 + k ∧ ((x = 1001 ∧ v = .int (kCmd k).1) ∨ (x = 1002 ∧ v = .int (kCmd k).2.1) ∨ (x = 1003 ∧ v = .int (kCmd k).2.2.1) ∨ (x = 1004 ∧ v = .int (kCmd k).2.2.2.1) ∨ (x = 1005 ∧ v = .ref (2000000 + (kCmd k).2.2.2.2.1)))) ∨
  (∃ i, i < 185 ∧ a = 2000000 + i ∧ ((x = 1010 ∧ v = .ref (3000000 + i)) ∨ (x = 1011 ∧ v = .int 0)))
/-- a row from outside: its sort, its length, its entries -/
def kOr (a t N : Nat) (f : Nat → Value) : Prop :=
  (a = 4000000 ∧ t = 26 ∧ N = 105 ∧ f = fun j => .ref (1000000 + j)) ∨ (a = 4000001 ∧ t = 20 ∧ N = 105 ∧ f = fun j => .int (kCmd j).2.2.2.2.2) ∨
  (∃ i, i < 185 ∧ a = 3000000 + i ∧ t = 21 ∧ N = (kTx i).2.2.2.length ∧ f = fun j => .int ((kTx i).2.2.2.getD j 0))
/-- a kind of rows -/
def kRow (k : Nat) : Prop := k = 20 ∨ k = 21 ∨ k = 23 ∨ k = 24 ∨ k = 25
/-- where a switch goes -/
def kSg (x : Nat) (v : Int32) : Nat := if v.toInt < (kSws.getD x (0, [], 0)).1 then (kSws.getD x (0, [], 0)).2.2 else (kSws.getD x (0, [], 0)).2.1.getD (v.toInt - (kSws.getD x (0, [], 0)).1).toNat (kSws.getD x (0, [], 0)).2.2
def kSv (x : Nat) : Value := if x < 105 then .ref (1000000 + x) else if x = 200 then .ref 4000000 else if x = 201 then .ref 4000001 else .int 1
/-- one instruction: what must hold ahead of it -/
def kjI (q : kQm) (rt d : Nat) (ins : Instr) (x : Nat) (z : Int) (i : Nat) (lv : mjL) (st : List Value) (σ : kS) (G : kG) (C : Nat → List Value → kS → kK → Prop) (K : kK) : Prop := match ins with
  | .iconst n => G (i + 1) lv (.int (Int32.ofInt n) :: st) σ
  | .bipush n => G (i + 1) lv (.int (Int8.ofInt n).toInt32 :: st) σ
  | .sipush n => G (i + 1) lv (.int (Int16.ofInt n).toInt32 :: st) σ
  | .ldc _ => if x = 0 then G (i + 1) lv (.int (Int32.ofInt z) :: st) σ else x = 1 ∧ G (i + 1) lv (.ref (2000000 + z.toNat) :: st) σ
  | .ldc_w _ => if x = 0 then G (i + 1) lv (.int (Int32.ofInt z) :: st) σ else x = 1 ∧ G (i + 1) lv (.ref (2000000 + z.toNat) :: st) σ
  | .ldc2_w _ => G (i + 1) lv (.long (Int64.ofInt z) :: st) σ
  | .lconst n => G (i + 1) lv (.long (Int64.ofNat (n : Nat)) :: st) σ
  | .aconst_null => G (i + 1) lv (.null :: st) σ
  | .iload k => mjLdI k lv (fun v => G (i + 1) lv (.int v :: st) σ)
  | .iload_n k => mjLdI k lv (fun v => G (i + 1) lv (.int v :: st) σ)
  | .lload k => mjLdL k lv (fun v => G (i + 1) lv (.long v :: st) σ)
  | .lload_n k => mjLdL k lv (fun v => G (i + 1) lv (.long v :: st) σ)
  | .aload k => kLdA k lv (fun v => G (i + 1) lv (v :: st) σ)
  | .aload_n k => kLdA k lv (fun v => G (i + 1) lv (v :: st) σ)
  | .istore k => mjI1 st (fun v r => k < lv.length ∧ G (i + 1) (mjS1 k (.int v) 0 lv) r σ)
  | .istore_n k => mjI1 st (fun v r => (k : Nat) < lv.length ∧ G (i + 1) (mjS1 k (.int v) 0 lv) r σ)
  | .lstore k => mjJ1 st (fun v r => k + 1 < lv.length ∧ G (i + 1) (mjS2 k (.long v) 0 lv) r σ)
  | .lstore_n k => mjJ1 st (fun v r => (k : Nat) + 1 < lv.length ∧ G (i + 1) (mjS2 k (.long v) 0 lv) r σ)
  | .astore k => kR1 st (fun v r => k < lv.length ∧ G (i + 1) (mjS1 k (.ref v) 0 lv) r σ) (fun r => k < lv.length ∧ G (i + 1) (mjS1 k .null 0 lv) r σ)
  | .astore_n k => kR1 st (fun v r => (k : Nat) < lv.length ∧ G (i + 1) (mjS1 k (.ref v) 0 lv) r σ) (fun r => (k : Nat) < lv.length ∧ G (i + 1) (mjS1 k .null 0 lv) r σ)
  | .iinc k n => mjLdI k lv (fun v => G (i + 1) (mjS1 k (.int (v + Int32.ofInt n)) 0 lv) st σ)
  | .iadd => mjI2 st (fun a b r => G (i + 1) lv (.int (a + b) :: r) σ)
  | .isub => mjI2 st (fun a b r => G (i + 1) lv (.int (a - b) :: r) σ)
  | .imul => mjI2 st (fun a b r => G (i + 1) lv (.int (a * b) :: r) σ)
  | .iand => mjI2 st (fun a b r => G (i + 1) lv (.int (a &&& b) :: r) σ)
  | .ior => mjI2 st (fun a b r => G (i + 1) lv (.int (a ||| b) :: r) σ)
  | .ixor => mjI2 st (fun a b r => G (i + 1) lv (.int (a ^^^ b) :: r) σ)
  | .ishl => mjI2 st (fun a b r => G (i + 1) lv (.int (a <<< (b &&& 31)) :: r) σ)
  | .ishr => mjI2 st (fun a b r => G (i + 1) lv (.int (a >>> (b &&& 31)) :: r) σ)
  | .iushr => mjI2 st (fun a b r => G (i + 1) lv (.int (a.toUInt32 >>> (b.toUInt32 &&& Int32.toUInt32 31)).toInt32 :: r) σ)
  | .idiv => mjI2 st (fun a b r => (¬ b = 0) ∧ G (i + 1) lv (.int (a / b) :: r) σ)
  | .irem => mjI2 st (fun a b r => (¬ b = 0) ∧ G (i + 1) lv (.int (a - a / b * b) :: r) σ)
  | .ineg => mjI1 st (fun a r => G (i + 1) lv (.int (-a) :: r) σ)
  | .ladd => mjJ2 st (fun a b r => G (i + 1) lv (.long (a + b) :: r) σ)
  | .lsub => mjJ2 st (fun a b r => G (i + 1) lv (.long (a - b) :: r) σ)
  | .lmul => mjJ2 st (fun a b r => G (i + 1) lv (.long (a * b) :: r) σ)
  | .land => mjJ2 st (fun a b r => G (i + 1) lv (.long (a &&& b) :: r) σ)
  | .lxor => mjJ2 st (fun a b r => G (i + 1) lv (.long (a ^^^ b) :: r) σ)
  | .ldiv => mjJ2 st (fun a b r => (¬ b = 0) ∧ G (i + 1) lv (.long (a / b) :: r) σ)
  | .lrem => mjJ2 st (fun a b r => (¬ b = 0) ∧ G (i + 1) lv (.long (a - a / b * b) :: r) σ)
  | .lneg => mjJ1 st (fun a r => G (i + 1) lv (.long (-a) :: r) σ)
  | .i2l => mjI1 st (fun a r => G (i + 1) lv (.long a.toInt64 :: r) σ)
  | .i2b => mjI1 st (fun a r => G (i + 1) lv (.int a.toInt8.toInt32 :: r) σ)
  | .i2c => mjI1 st (fun a r => G (i + 1) lv (.int (a.toUInt32 % 65536).toInt32 :: r) σ)
  | .l2i => mjJ1 st (fun a r => G (i + 1) lv (.int a.toInt32 :: r) σ)
  | .lcmp => mjJ2 st (fun a b r => G (i + 1) lv (.int (lg_cmp a b) :: r) σ)
  | .dup => mjDp st (fun a r => G (i + 1) lv (.int a :: .int a :: r) σ) (fun a r => G (i + 1) lv (.ref a :: .ref a :: r) σ)
  | .pop => mjI1 st (fun _ r => G (i + 1) lv r σ)
  | .if_icmp c _ => mjI2 st (fun a b r => (mjCc c a b → G x lv r σ) ∧ (¬ mjCc c a b → G (i + 1) lv r σ))
  | .ifCond c _ => mjI1 st (fun a r => (mjCc c a 0 → G x lv r σ) ∧ (¬ mjCc c a 0 → G (i + 1) lv r σ))
  | .ifnull _ => kR1 st (fun _ r => G (i + 1) lv r σ) (fun r => G x lv r σ)
  | .ifnonnull _ => kR1 st (fun _ r => G x lv r σ) (fun r => G (i + 1) lv r σ)
  | .if_acmp c _ => kA2 st (fun a b r => (kCm a ∧ kCm b ∧ (c = .eq ∨ c = .ne)) ∧ ((c = .eq ↔ a = b) → G x lv r σ) ∧ (¬ (c = .eq ↔ a = b) → G (i + 1) lv r σ))
  | .goto _ => G x lv st σ
  | .tableswitch _ _ _ _ => mjI1 st (fun v r => G (kSg x v) lv r σ)
  | .getstatic _ => G (i + 1) lv (kSv x :: st) σ
  | .getfield _ => mjA1 st (fun a r => if x < 1000 then (σ.2.2.2.1 a).1 = x / 32 ∧ (match (kT x).1 with
      | 0 => G (i + 1) lv (.int (σ.1 a (x % 32)) :: r) σ
      | 1 => G (i + 1) lv (.int (σ.1 a (x % 32)) :: r) σ
      | 8 => G (i + 1) lv (.int (σ.1 a (x % 32)) :: r) σ
      | 2 => G (i + 1) lv (.long (σ.2.1 a (x % 32)) :: r) σ
      | 3 => G (i + 1) lv (.ref (kT x).2.1 :: r) σ
      | 4 => G (i + 1) lv (.ref (a + (kT x).2.1) :: r) σ
      | _ => ∃ o, σ.2.2.1 a (x % 32) = o ∧ G (i + 1) lv (va_rf o :: r) σ) else ∃ v, kOf x a v ∧ G (i + 1) lv (v :: r) σ)
  | .putfield _ => kPf st
      (fun v a r => (σ.2.2.2.1 a).1 = x / 32 ∧ ((kT x).1 = 0 ∨ ((kT x).1 = 1 ∧ (v = 0 ∨ v = 1))) ∧ (kTY (mjIu σ.1 a (x % 32) v, σ.2) → G (i + 1) lv r (mjIu σ.1 a (x % 32) v, σ.2)))
      (fun v a r => (σ.2.2.2.1 a).1 = x / 32 ∧ (kT x).1 = 2 ∧ (kTY (σ.1, mjLu σ.2.1 a (x % 32) v, σ.2.2) → G (i + 1) lv r (σ.1, mjLu σ.2.1 a (x % 32) v, σ.2.2)))
      (fun g a r => (σ.2.2.2.1 a).1 = x / 32 ∧ (((kT x).1 = 5 ∧ (σ.2.2.2.1 g).1 = (kT x).2.2) ∨ ((kT x).1 = 6 ∧ kCm g) ∨ ((kT x).1 = 7 ∧ kSt g)) ∧ (kTY (σ.1, σ.2.1, kFu σ.2.2.1 a (x % 32) (some g), σ.2.2.2) → G (i + 1) lv r (σ.1, σ.2.1, kFu σ.2.2.1 a (x % 32) (some g), σ.2.2.2)))
      (fun a r => (σ.2.2.2.1 a).1 = x / 32 ∧ ((kT x).1 = 6 ∨ (kT x).1 = 7) ∧ (kTY (σ.1, σ.2.1, kFu σ.2.2.1 a (x % 32) none, σ.2.2.2) → G (i + 1) lv r (σ.1, σ.2.1, kFu σ.2.2.1 a (x % 32) none, σ.2.2.2)))
  | .arraylength => mjA1 st (fun a r => (kRow (σ.2.2.2.1 a).1 ∧ G (i + 1) lv (.int (nI (σ.2.2.2.1 a).2) :: r) σ) ∨ (∃ t N f, kOr a t N f ∧ G (i + 1) lv (.int (nI N) :: r) σ))
  | .iaload => mjIA st (fun j h r => ((σ.2.2.2.1 h).1 = 20 ∧ vp_in j (σ.2.2.2.1 h).2 ∧ G (i + 1) lv (.int (σ.1 h j.toNatClampNeg) :: r) σ) ∨ (∃ N f, kOr h 20 N f ∧ vp_in j N ∧ ∃ v, f j.toNatClampNeg = .int v ∧ G (i + 1) lv (.int v :: r) σ))
  | .baload => mjIA st (fun j h r => ((σ.2.2.2.1 h).1 = 21 ∧ vp_in j (σ.2.2.2.1 h).2 ∧ G (i + 1) lv (.int (σ.1 h j.toNatClampNeg) :: r) σ) ∨ (∃ N f, kOr h 21 N f ∧ vp_in j N ∧ ∃ v, f j.toNatClampNeg = .int v ∧ G (i + 1) lv (.int v :: r) σ))
  | .laload => mjIA st (fun j h r => (σ.2.2.2.1 h).1 = 23 ∧ vp_in j (σ.2.2.2.1 h).2 ∧ G (i + 1) lv (.long (σ.2.1 h j.toNatClampNeg) :: r) σ)
  | .aaload => mjIA st (fun j h r => (((σ.2.2.2.1 h).1 = 24 ∨ (σ.2.2.2.1 h).1 = 25) ∧ vp_in j (σ.2.2.2.1 h).2 ∧ ∃ o, σ.2.2.1 h j.toNatClampNeg = o ∧ G (i + 1) lv (va_rf o :: r) σ) ∨ (h = 4000000 ∧ vp_in j 105 ∧ G (i + 1) lv (.ref (1000000 + j.toNatClampNeg) :: r) σ))
  | .iastore => mjIIA st (fun v j h r => (σ.2.2.2.1 h).1 = 20 ∧ vp_in j (σ.2.2.2.1 h).2 ∧ (kTY (mjIu σ.1 h j.toNatClampNeg v, σ.2) → G (i + 1) lv r (mjIu σ.1 h j.toNatClampNeg v, σ.2)))
  | .bastore => mjIIA st (fun v j h r => ((σ.2.2.2.1 h).1 = 21 ∧ v.toInt8.toInt32 = v) ∧ vp_in j (σ.2.2.2.1 h).2 ∧ (kTY (mjIu σ.1 h j.toNatClampNeg v, σ.2) → G (i + 1) lv r (mjIu σ.1 h j.toNatClampNeg v, σ.2)))
  | .lastore => mjJIA st (fun v j h r => (σ.2.2.2.1 h).1 = 23 ∧ vp_in j (σ.2.2.2.1 h).2 ∧ (kTY (σ.1, mjLu σ.2.1 h j.toNatClampNeg v, σ.2.2) → G (i + 1) lv r (σ.1, mjLu σ.2.1 h j.toNatClampNeg v, σ.2.2)))
  | .aastore => kAIA st (fun g j h r => ((σ.2.2.2.1 h).1 = 25 ∧ (σ.2.2.2.1 g).1 = 11) ∧ vp_in j (σ.2.2.2.1 h).2 ∧ (kTY (σ.1, σ.2.1, kFu σ.2.2.1 h j.toNatClampNeg (some g), σ.2.2.2) → G (i + 1) lv r (σ.1, σ.2.1, kFu σ.2.2.1 h j.toNatClampNeg (some g), σ.2.2.2)))
  | .newarray _ => mjI1 st (fun v r => ∃ N : Nat, v = nI N ∧ (N ≤ 67108864 ∧ (x = 20 ∨ x = 21 ∨ x = 23)) ∧ (1 ≤ σ.2.2.2.2.2.1 ∧ N ≤ σ.2.2.2.2.2.2) ∧ (kTY (kNew σ x N) → G (i + 1) lv (.ref σ.2.2.2.2.1 :: r) (kNew σ x N)))
  | .anewarray _ => mjI1 st (fun v r => ∃ N : Nat, v = nI N ∧ (N ≤ 67108864 ∧ x = 25) ∧ (1 ≤ σ.2.2.2.2.2.1 ∧ N ≤ σ.2.2.2.2.2.2) ∧ (kTY (kNew σ 25 N) → G (i + 1) lv (.ref σ.2.2.2.2.1 :: r) (kNew σ 25 N)))
  | .new _ => lv[0]? = some (some (.ref 59)) ∧ (x = 777 ∧ 1 ≤ σ.2.2.2.2.2.1 ∧ 9 ≤ σ.2.2.2.2.2.2 ∧ 3 ≤ d ∧ (st.map fun v => v.category).sum ≤ 5) ∧ (kTY (kVal σ) → G (i + 4) lv (.ref σ.2.2.2.2.1 :: st) (kVal σ))
  | .invokevirtual _ => if x = 1002 then mjA1 st (fun a r => ∃ k, (k < 105 ∧ a = 1000000 + k ∧ (r.map fun v => v.category).sum ≤ 8 ∧ 1 ≤ d) ∧ G (i + 1) lv (.int (nI k) :: r) σ) else
      (q x).2.2.1 ≤ st.length ∧ mjA1 (st.drop (q x).2.2.1) (fun a r => kRc σ a (q x).2.2.2.2.2 ∧ (r.map fun v => v.category).sum ≤ 8 ∧ C x (.ref a :: (st.take (q x).2.2.1).reverse) σ (fun v σ' => kTY σ' → kEx σ σ' → G (i + 1) lv (mjPush v r) σ'))
  | .invokestatic _ => if x = 1006 then kCpy st (fun s sp t dp n r => ∃ a b c : Nat, (sp = nI a ∧ dp = nI b ∧ n = nI c) ∧ ((σ.2.2.2.1 s).1 = (σ.2.2.2.1 t).1 ∧ a + c ≤ (σ.2.2.2.1 s).2 ∧ b + c ≤ (σ.2.2.2.1 t).2) ∧ ((r.map fun v => v.category).sum ≤ 8 ∧ 1 ≤ d) ∧
        ((((σ.2.2.2.1 t).1 = 20 ∨ (σ.2.2.2.1 t).1 = 21) ∧ (kTY (kUp σ.1 t (va_cpy (σ.1 s) (σ.1 t) a b c), σ.2) → G (i + 1) lv r (kUp σ.1 t (va_cpy (σ.1 s) (σ.1 t) a b c), σ.2))) ∨
        ((σ.2.2.2.1 t).1 = 23 ∧ (kTY (σ.1, kUp σ.2.1 t (va_cpy (σ.2.1 s) (σ.2.1 t) a b c), σ.2.2) → G (i + 1) lv r (σ.1, kUp σ.2.1 t (va_cpy (σ.2.1 s) (σ.2.1 t) a b c), σ.2.2))))) else if x = 1008 then mjI2 st (fun a b r => ((¬ a < 0) ∧ a < b ∧ (r.map fun v => v.category).sum ≤ 8 ∧ 3 ≤ d) ∧ G (i + 1) lv r σ) else
      (q x).2.2.1 ≤ st.length ∧ ((st.drop (q x).2.2.1).map fun v => v.category).sum ≤ 8 ∧ C x (st.take (q x).2.2.1).reverse σ (fun v σ' => kTY σ' → kEx σ σ' → G (i + 1) lv (mjPush v (st.drop (q x).2.2.1)) σ')
  | .ireturn => mjI1 st (fun v r => r = [] ∧ (rt = 1 ∨ (rt = 2 ∧ (v = 0 ∨ v = 1)) ∨ (rt = 5 ∧ (v.toUInt32 % 65536).toInt32 = v) ∨ (rt = 6 ∧ v.toInt8.toInt32 = v)) ∧ K (some (.int v)) σ)
  | .lreturn => mjJ1 st (fun v r => r = [] ∧ rt = 3 ∧ K (some (.long v)) σ)
  | .areturn => kR1 st (fun v r => r = [] ∧ 10 ≤ rt ∧ K (some (.ref v)) σ) (fun r => r = [] ∧ 10 ≤ rt ∧ K (some .null) σ)
  | .return_ => st = [] ∧ rt = 0 ∧ K none σ
  | _ => False
/-- a call goes one deeper -/
def kjCl (q : kQm) (X : Nat → Nat → mjL → kS → kK → Prop) (d x : Nat) (ar : List Value) (σ : kS) (K : kK) : Prop := match d with
  | 0 => False
  | d' + 1 => (mjAr ar).length ≤ (q x).2.2.2.1 ∧ X d' x (mjL0 (q x).2.2.2.1 ar) σ K
/-- so many steps, so deep calls -/
def kjX (P : Nat → List mjEn) (q : kQm) : Nat → Nat → Nat → Nat → mjL → List Value → kS → kK → Prop
  | 0, _, _, _, _, _, _, _ => False
  | f + 1, d, m, i, lv, st, σ, K => match (P m)[i]? with
    | none => False
    | some (_, ins, x, z) => kjI q (q m).2.2.2.2.1 d ins x z i lv st σ (fun i lv st σ => kjX P q f d m i lv st σ K) (kjCl q (fun d' x' lv σ K' => kjX P q f d' x' 0 lv [] σ K') d) K
