/-! One instruction: what the second reader asks is enough for the machine. -/
theorem kCl_ok : ∀ c, c < 12 → ¬ c = 10 → classes[c]? = some (kCl c) ∧ (∀ w ∈ u_ws (kCl c).1 (kCl c).2.1 (kCl c).2.2, w ∈ kw) ∧ (kCl c).2.2 = kNf c ∧ ∃ ty : Nat → FieldType, (∀ k, k < (kCl c).2.2 → parseFieldDescriptor ((kCl c).2.1 k).2.2.1 = some (ty k)) ∧ (∀ a, a < (kCl c).2.2 → ∀ b, b < (kCl c).2.2 → a ≠ b → ((kCl c).2.1 a).2.1 ≠ ((kCl c).2.1 b).2.1) ∧
    ∀ k, k < (kCl c).2.2 → ((kT (32 * c + k)).1 = 0 → ty k = .int ∧ ((kCl c).2.1 k).2.2.2 = false) ∧ ((kT (32 * c + k)).1 = 1 → ty k = .boolean ∧ ((kCl c).2.1 k).2.2.2 = false) ∧ ((kT (32 * c + k)).1 = 2 → ty k = .long ∧ ((kCl c).2.1 k).2.2.2 = false) ∧ ((kT (32 * c + k)).1 = 5 ∨ (kT (32 * c + k)).1 = 6 ∨ (kT (32 * c + k)).1 = 7 → refKind (ty k) = true ∧ ((kCl c).2.1 k).2.2.2 = false) := by
  intro c hc hn
  match c, hc, hn with
  | 0, _, _ => exact ⟨rfl, kin_X1, rfl, tyX1, tyX1_ok, nmX1, by decide +kernel⟩
  | 1, _, _ => exact ⟨rfl, kin_X3, rfl, tyX3, tyX3_ok, nmX3, by decide +kernel⟩
  | 2, _, _ => exact ⟨rfl, kin_X11, rfl, tyX11, tyX11_ok, nmX11, by decide +kernel⟩
  | 3, _, _ => exact ⟨rfl, kin_X8, rfl, tyX8, tyX8_ok, nmX8, by decide +kernel⟩
  | 4, _, _ => exact ⟨rfl, kin_X4, rfl, tyX4, tyX4_ok, nmX4, by decide +kernel⟩
  | 5, _, _ => exact ⟨rfl, kin_X9, rfl, tyX9, tyX9_ok, nmX9, by decide +kernel⟩
  | 6, _, _ => exact ⟨rfl, kin_X5, rfl, tyX5, tyX5_ok, nmX5, by decide +kernel⟩
  | 7, _, _ => exact ⟨rfl, kin_X6, rfl, tyX6, tyX6_ok, nmX6, by decide +kernel⟩
  | 8, _, _ => exact ⟨rfl, kin_X7, rfl, tyX7, tyX7_ok, nmX7, by decide +kernel⟩
  | 9, _, _ => exact ⟨rfl, kin_X12, rfl, tyX12, tyX12_ok, nmX12, by decide +kernel⟩
  | 11, _, _ => exact ⟨rfl, kin_X10, rfl, tyX10, tyX10_ok, nmX10, by decide +kernel⟩
  | 10, _, hn => exact absurd rfl hn
theorem kRef_ok {t : FieldType} (h : refKind t = true) (v : Value) (hv : v = .null ∨ ∃ a, v = .ref a) : narrow t v = v ∧ fits t v = true := by
  cases t <;> first | exact absurd h (by decide) | (rcases hv with rfl | ⟨a, rfl⟩ <;> exact ⟨rfl, rfl⟩)
/-- where a field of a command or of a text is -/
def kOn (x : Nat) : String × String × String := if x = 1001 then ("KeySteward$Command", "least", "I") else if x = 1002 then ("KeySteward$Command", "most", "I") else if x = 1003 then ("KeySteward$Command", "group", "I") else if x = 1004 then ("KeySteward$Command", "marks", "I") else if x = 1005 then ("KeySteward$Command", "text", "Ljava/lang/String;") else if x = 1010 then ("java/lang/String", "value", "[B") else ("java/lang/String", "coder", "B")
/-- where a static field is -/
def kSn (x : Nat) : String × String × String := if x < 105 then ("KeySteward$Command", kCnm.getD x "", "LKeySteward$Command;") else if x = 200 then ("KeySteward$Command", "ALL", "[LKeySteward$Command;") else if x = 201 then ("KeySteward$1", "$SwitchMap$KeySteward$Command", "[I") else ("java/lang/String", "COMPACT_STRINGS", "Z")
/-- a row of the tables is right -/
def kjGE (P : Nat → List mjEn) (q : kQm) (m i pc : Nat) (ins : Instr) (x : Nat) (z : Int) : Prop :=
  decode (q m).2.1 pc = .ok (ins, kLen ins z) ∧ match ins with
  | .ldc k => (x = 0 → Cond.constant (q m).1.cls k (Int32.ofInt z) ∈ kw) ∧ (x = 1 → z.toNat < 185 ∧ (kTx z.toNat).1 = (q m).1.cls ∧ (kTx z.toNat).2.1 = k)
  | .ldc_w k => (x = 0 → Cond.constant (q m).1.cls k (Int32.ofInt z) ∈ kw) ∧ (x = 1 → z.toNat < 185 ∧ (kTx z.toNat).1 = (q m).1.cls ∧ (kTx z.toNat).2.1 = k)
  | .ldc2_w k => Cond.constantLong (q m).1.cls k (Int64.ofInt z) ∈ kw
  | .getfield k => (x < 1000 → x < 384 ∧ (¬ x / 32 = 10) ∧ x % 32 < kNf (x / 32) ∧ Cond.fieldLink (q m).1.cls k ((kCl (x / 32)).2.1 (x % 32)).1 ((kCl (x / 32)).2.1 (x % 32)).2.1 ((kCl (x / 32)).2.1 (x % 32)).2.2.1 ∈ kw) ∧ (1000 ≤ x → Cond.fieldLink (q m).1.cls k (kOn x).1 (kOn x).2.1 (kOn x).2.2 ∈ kw)
  | .putfield k => x < 384 ∧ (¬ x / 32 = 10) ∧ x % 32 < kNf (x / 32) ∧ Cond.fieldLink (q m).1.cls k ((kCl (x / 32)).2.1 (x % 32)).1 ((kCl (x / 32)).2.1 (x % 32)).2.1 ((kCl (x / 32)).2.1 (x % 32)).2.2.1 ∈ kw
  | .if_icmp _ off => ∃ t : Nat, (pc : Int) + off = (t : Int) ∧ ∀ e', (P m)[x]? = some e' → e'.1 = t
  | .ifCond _ off => ∃ t : Nat, (pc : Int) + off = (t : Int) ∧ ∀ e', (P m)[x]? = some e' → e'.1 = t
  | .if_acmp _ off => ∃ t : Nat, (pc : Int) + off = (t : Int) ∧ ∀ e', (P m)[x]? = some e' → e'.1 = t
  | .ifnull off => ∃ t : Nat, (pc : Int) + off = (t : Int) ∧ ∀ e', (P m)[x]? = some e' → e'.1 = t
  | .ifnonnull off => ∃ t : Nat, (pc : Int) + off = (t : Int) ∧ ∀ e', (P m)[x]? = some e' → e'.1 = t
  | .goto off => ∃ t : Nat, (pc : Int) + off = (t : Int) ∧ ∀ e', (P m)[x]? = some e' → e'.1 = t
  | .tableswitch df lo hi offs => lo = (kSws.getD x (0, [], 0)).1 ∧ hi + 1 = lo + offs.size ∧ (kSws.getD x (0, [], 0)).2.1.length = offs.size ∧ (∃ t : Nat, (pc : Int) + df = (t : Int) ∧ ∀ e', (P m)[(kSws.getD x (0, [], 0)).2.2]? = some e' → e'.1 = t) ∧ ∀ j, j < offs.size → ∃ (off : Int) (t : Nat), offs[j]? = some off ∧ (pc : Int) + off = (t : Int) ∧ ∀ e', (P m)[(kSws.getD x (0, [], 0)).2.1.getD j (kSws.getD x (0, [], 0)).2.2]? = some e' → e'.1 = t
  | .getstatic k => (x < 105 ∨ x = 200 ∨ x = 201 ∨ x = 202) ∧ Cond.fieldLink (q m).1.cls k (kSn x).1 (kSn x).2.1 (kSn x).2.2 ∈ kw
  | .newarray t => (x = 20 → t = .int ∧ Cond.arrayClass .int ∈ kw) ∧ (x = 21 → t = .byte ∧ Cond.arrayClass .byte ∈ kw) ∧ (x = 23 → t = .long ∧ Cond.arrayClass .long ∈ kw)
  | .anewarray k => x = 25 → Cond.classLink (q m).1.cls k "KeySteward$Value" ∈ kw
  | .new k => x = 777 → (q m).1.cls = "KeySteward$Keys" ∧ k = 18 ∧ decode (q m).2.1 (pc + 3) = .ok (.dup, 1) ∧ decode (q m).2.1 (pc + 4) = .ok (.aload_n 0, 1) ∧ decode (q m).2.1 (pc + 5) = .ok (.invokespecial 120, 3) ∧ ∀ e', (P m)[i + 4]? = some e' → e'.1 = pc + 8
  | .invokevirtual k => (x = 1002 → Cond.methodLink (q m).1.cls k yOrx ∈ kw) ∧ ((¬ x = 1002) → (¬ x = 9999) → kCal (q m).1.cls (q x) k ∧ Cond.instanceMethod (q x).1 ∈ kw ∧ Cond.selects (kCn (q x).2.2.2.2.2) (q x).1 (q x).1 ∈ kw ∧ ((q x).2.2.2.2.2 < 20 → (q x).2.2.2.2.2 < 12 ∧ ¬ (q x).2.2.2.2.2 = 10))
  | .invokestatic k => (x = 1006 → Cond.methodLink (q m).1.cls k arraycopyName ∈ kw ∧ Cond.native arraycopyName ∈ kw ∧ Cond.static arraycopyName ∈ kw ∧ Cond.initialized "java/lang/System" ∈ kw) ∧ (x = 1008 → (q m).1.cls = "java/lang/StringLatin1" ∧ k = 9) ∧ ((¬ x = 1006) → (¬ x = 1008) → (¬ x = 9999) → kCal (q m).1.cls (q x) k ∧ Cond.static (q x).1 ∈ kw)
  | _ => True
section KJU
variable {l : Launch} {dC : Nat → ClassId} {dI : Nat → Nat → Nat} {dA : Nat → ClassId} {ad : Nat → Nat} {p : Program} {e : Env} {R : Room} {s : State} {mi : MethodId} {args : Array Value} {below : List Frame} {meth : Method} {c : Code} {A : Nat → Prop} {Qx : State → Prop}
theorem kj_icmp {cc : ByteArray} {pc t cells slots : Nat} {cd : ClassFile.Cond} {off : Int} {x y : Int32} {ls : Array Slot} {rest : List Value} {H : Heap} {locs : List Loc} (hx : p.tables.exec = Jvm.exec) (hb : c.code = cc) (hd : decode cc pc = .ok (.if_icmp cd off, 3)) (ht : (pc : Int) + off = (t : Int)) (k1 : mjCc cd x y → W p l e R s mi args below meth c H locs cells slots Qx (F0 mi t ls rest)) (k2 : ¬ mjCc cd x y → W p l e R s mi args below meth c H locs cells slots Qx (F0 mi (pc + 3) ls rest)) : W p l e R s mi args below meth c H locs cells slots Qx (F0 mi pc ls (.int y :: .int x :: rest)) := by
  cases cd with
  | eq => exact lv_icmp_eq hx hb hd ht k1 k2
  | ne => exact lv_icmp_ne hx hb hd ht k1 (fun h => k2 (fun g => g h))
  | lt => exact lv_icmp_lt hx hb hd ht k1 k2
  | ge => exact lv_icmp_ge hx hb hd ht k1 k2
  | gt => exact lv_icmp_gt hx hb hd ht k1 k2
  | le => exact lv_icmp_le hx hb hd ht k1 k2
theorem kj_if {cc : ByteArray} {pc t cells slots : Nat} {cd : ClassFile.Cond} {off : Int} {x : Int32} {ls : Array Slot} {rest : List Value} {H : Heap} {locs : List Loc} (hx : p.tables.exec = Jvm.exec) (hb : c.code = cc) (hd : decode cc pc = .ok (.ifCond cd off, 3)) (ht : (pc : Int) + off = (t : Int)) (k1 : mjCc cd x 0 → W p l e R s mi args below meth c H locs cells slots Qx (F0 mi t ls rest)) (k2 : ¬ mjCc cd x 0 → W p l e R s mi args below meth c H locs cells slots Qx (F0 mi (pc + 3) ls rest)) : W p l e R s mi args below meth c H locs cells slots Qx (F0 mi pc ls (.int x :: rest)) := by
  cases cd with
  | eq => exact lv_if_eq hx hb hd ht k1 k2
  | ne => exact lv_if_ne hx hb hd ht k1 (fun h => k2 (fun g => g h))
  | lt => exact lv_if_lt hx hb hd ht k1 k2
  | ge => exact lv_if_ge hx hb hd ht k1 k2
  | gt => exact lv_if_gt hx hb hd ht k1 k2
  | le => exact lv_if_le hx hb hd ht k1 k2
theorem kj_ldcw {cc : ByteArray} {pc cells slots : Nat} {ls : Array Slot} {rest : List Value} {H : Heap} {locs : List Loc} {own tx : String} {index q : Nat} (hx : p.tables.exec = Jvm.exec) (hb : c.code = cc) (hown : s.vm.findClass own = some mi.cls) (hZ : vk_R own index tx q s) (hdg : decode cc pc = .ok (.ldc_w index, 3)) (k : W p l e R s mi args below meth c H locs cells slots Qx (F0 mi (pc + 3) ls (.ref q :: rest))) : W p l e R s mi args below meth c H locs cells slots Qx (F0 mi pc ls rest) := by
  intro T hT X
  obtain ⟨t, a1, b1⟩ := k T hT X
  exact ⟨t, X.ldcStringW hx hown (text := tx) (a := q) hZ.1 hZ.2 (g := F0 mi pc ls rest) rfl (by rw [hb]; exact hdg) t a1, b1⟩
/-- the new thing's place -/
theorem kj_fresh {σ : kS} {n0 cells q : Nat} {w : va_E} {H1 : Heap} (ty : kTY σ) (hD : va_D A (kW dA ad σ ++ [(q, w)])) (hP : va_P (dC, dI) classes (kW dA ad σ ++ [(q, w)]) H1) (hA2 : ∀ a : Nat, A a → s.heap.size ≤ a ∨ ∃ h, h < n0 ∧ a = ad h) (had : kAd ad n0 s.heap.size) (hn : σ.2.2.2.2.1 = n0 + cells) (hle : H1.size ≤ s.heap.size + (cells + 1)) : q = ad σ.2.2.2.2.1 := by
  have hl : (kW dA ad σ ++ [(q, w)])[σ.2.2.2.2.1]? = some (q, w) := by
    rw [List.getElem?_append_right (by rw [kW_len]; exact Nat.le_refl _), kW_len, Nat.sub_self]; rfl
  have hw : ∀ h, h < σ.2.2.2.2.1 → (kW dA ad σ ++ [(q, w)])[h]? = some (ad h, kE dA ad σ h) := fun h hh => by
    rw [List.getElem?_append_left (by rw [kW_len]; exact hh)]; exact kW_get hh
  have hne : ∀ h, h < σ.2.2.2.2.1 → ¬ q = ad h := fun h hh e => by
    have := hD.1 _ _ _ _ hl (hw h hh) e
    omega
  have t5 := ty.2.2.2.2.1
  have hq : q < H1.size := (hP _ _ hl).lt
  rcases hA2 q (hD.2 _ _ hl) with h1 | ⟨h, h1, h2⟩
  · have e2 := had σ.2.2.2.2.1 (by omega) (by omega)
    by_cases c : q < s.heap.size + cells
    · exact absurd (by rw [had (n0 + (q - s.heap.size)) (by omega) (by omega)]; omega) (hne (n0 + (q - s.heap.size)) (by omega))
    · rw [e2]; omega
  · exact absurd h2 (hne h (by omega))
theorem kj_kind {cA dk : ClassId} {t : FieldType} (h1 : va_RA s cA t) (h2 : va_RA s dk t) : cA = dk := by
  cases t with
  | object C =>
    obtain ⟨-, -, -, -, -, a⟩ := h1
    obtain ⟨-, -, -, -, -, b⟩ := h2
    exact Option.some.inj (a.symm.trans b)
  | _ => exact Option.some.inj (Eq.trans (Eq.symm h1) h2)
end KJU
