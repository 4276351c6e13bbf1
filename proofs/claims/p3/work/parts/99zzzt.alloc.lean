/-! The constructor's first half: the rows are made. -/
section ALLOC
def itL : List Nat := [2, 5, 9, 13, 17, 21, 25, 28, 32, 36, 39, 42, 46, 50, 53, 57, 61, 65, 69, 73, 77, 81, 85, 89, 93, 97, 101, 105, 109, 113, 117, 121, 124, 128, 131, 135, 139, 142, 146, 150, 154, 158, 162, 166, 170, 174, 177, 181, 185, 189, 193, 196, 200, 204, 208, 212, 216, 219, 223, 227, 231, 234, 237, 241, 244, 248, 251, 255, 258, 261, 264, 267, 270, 273, 277, 280, 283, 286, 289, 292, 295, 298, 301, 304, 307, 310, 313, 316, 319, 322, 325, 328, 331, 334, 337, 340, 343, 347, 350, 353, 356, 359, 362, 366, 369, 373, 377, 380, 383, 387, 390, 393, 396, 400, 403, 407, 410]
def naF : Nat → Nat
  | 0 => 0
  | j + 1 => naF j + (if mjTc j = 9 then 1 else 0)
def slF : Nat → Nat
  | 0 => 0
  | j + 1 => slF j + (if mjTc j = 9 then mjLn (mjHn j) else 0)
def tyK (kd : Nat) : FieldType := match kd with
  | 0 => .int
  | 1 => .byte
  | 2 => .boolean
  | _ => .long
def atK (kd : Nat) : ArrayType := match kd with
  | 0 => .int
  | 1 => .byte
  | 2 => .boolean
  | _ => .long
/-- a row of zeros -/
def zrA (h : Nat) : vp_A := (mjLn h, if mjKd h = 3 then .inr (.inl (fun _ => 0)) else .inl (fun _ => 0))
def dfV (k : Nat) : Value := match mjTc k with
  | 9 => .null
  | 2 => .long 0
  | _ => .int 0
def pFV (ad : Nat → Nat) (j k : Nat) : Value := if k < j then mjR ad (mjFv Z0 k) else dfV k
def pwA (ck : Nat → ClassId) (ad : Nat → Nat) (n : Nat) : va_W := (List.range n).map (fun i => (ad (i + 1), .inl (ck (i + 1), zrA (i + 1))))
/-- the object with so many fields set, and its rows -/
def pW0 (ck : Nat → ClassId) (ad : Nat → Nat) (j : Nat) : va_W := (ad 0, .inr (10, (List.range 116).map (pFV ad j))) :: pwA ck ad (naF j)
def ptY (ck : Nat → ClassId) (n : Nat) : List (ClassId × FieldType) := (List.range n).map (fun i => (ck (i + 1), tyK (mjKd (i + 1))))
def pvI (ins : Instr) (z : Int) : Option Int32 := match ins with
  | .iconst n => some (Int32.ofInt n)
  | .bipush n => some ((Int8.ofInt n).toInt32)
  | .sipush n => some ((Int16.ofInt n).toInt32)
  | .ldc _ => some (Int32.ofInt z)
  | .ldc_w _ => some (Int32.ofInt z)
  | _ => none
def pvL (ins : Instr) : Option Int64 := match ins with
  | .lconst n => some (Int64.ofNat (n : Nat))
  | _ => none
def pcN (i : Nat) : Nat := match (mjPP 1)[i]? with
  | some e => e.1
  | none => 0
def isA (i : Nat) : Bool := match (mjPP 1)[i]? with
  | some (_, .aload_n k, _, _) => decide (k = 0)
  | _ => false
def isN (i kd : Nat) : Bool := match (mjPP 1)[i]? with
  | some (_, .newarray a, _, _) => decide (a = atK kd)
  | _ => false
def isP (i j : Nat) : Bool := match (mjPP 1)[i]? with
  | some (_, .putfield _, x, _) => decide (x = j)
  | _ => false
def isI (i : Nat) (v : Int32) : Bool := match (mjPP 1)[i]? with
  | some (_, ins, _, z) => decide (pvI ins z = some v)
  | none => false
def isL (i : Nat) (v : Int64) : Bool := match (mjPP 1)[i]? with
  | some (_, ins, _, _) => decide (pvL ins = some v)
  | none => false
def chJ (j : Nat) : Bool := isA (itL.getD j 0) && (if mjTc j = 9 then isI (itL.getD j 0 + 1) (nI (mjLn (mjHn j))) && isN (itL.getD j 0 + 2) (mjKd (mjHn j)) && isP (itL.getD j 0 + 3) j && decide (itL.getD (j + 1) 0 = itL.getD j 0 + 4) && decide (mjHn j = naF j + 1) && decide (mjKd (mjHn j) < 4)
  else if mjTc j = 2 then isL (itL.getD j 0 + 1) 0 && isP (itL.getD j 0 + 2) j && decide (itL.getD (j + 1) 0 = itL.getD j 0 + 3)
  else isI (itL.getD j 0 + 1) (Z0.1 j) && isP (itL.getD j 0 + 2) j && decide (itL.getD (j + 1) 0 = itL.getD j 0 + 3))
theorem chJ_all : ∀ j, j < 116 → chJ j = true := by decide +kernel
theorem na_le : ∀ j, j < 117 → naF j ≤ 60 ∧ slF j ≤ 3453384 := by decide +kernel
theorem hn_le : ∀ j, j < 117 → ∀ k, k < 117 → k < j → mjTc k = 9 → mjHn k ≤ naF j := by decide +kernel
theorem tc_5 : ∀ k, k < 116 → mjTc k = 0 ∨ mjTc k = 1 ∨ mjTc k = 2 ∨ mjTc k = 9 := by decide +kernel
end ALLOC
