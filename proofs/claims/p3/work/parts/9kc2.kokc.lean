/-! What is checked of a table. -/
section KOKC
def bAny (L : List (Nat × Nat)) (k x : Nat) : Bool := L.any (fun p => decide (p.1 = k) && decide (p.2 = x))
def bAnyZ (L : List (Nat × Int)) (k : Nat) (z : Int) : Bool := L.any (fun p => decide (p.1 = k) && decide (p.2 = z))
theorem bAny_ok {L : List (Nat × Nat)} {k x : Nat} (h : bAny L k x = true) : (k, x) ∈ L := by
  obtain ⟨p, hp, h⟩ := List.any_eq_true.mp h
  rw [Bool.and_eq_true] at h
  rw [← of_decide_eq_true h.1, ← of_decide_eq_true h.2]; exact hp
theorem bAnyZ_ok {L : List (Nat × Int)} {k : Nat} {z : Int} (h : bAnyZ L k z = true) : (k, z) ∈ L := by
  obtain ⟨p, hp, h⟩ := List.any_eq_true.mp h
  rw [Bool.and_eq_true] at h
  rw [← of_decide_eq_true h.1, ← of_decide_eq_true h.2]; exact hp
def bLdc (m k x : Nat) (z : Int) : Bool := (!decide (x = 0) || bAnyZ (lcT.getD (cxM m) []) k z) && (!decide (x = 1) || (decide (z.toNat < 185) && decide ((kTx z.toNat).2.1 = k) && decide ((kTx z.toNat).1 = kcn (cxM m))))
def bGet (m k x : Nat) : Bool := (!decide (x < 1000) || (decide (x < 384) && !decide (x / 32 = 10) && decide (x % 32 < kNf (x / 32)) && bAny (fdT.getD (cxM m) []) k x)) && (!decide (1000 ≤ x) || bAny (foT.getD (cxM m) []) k x)
def bPut (m k x : Nat) : Bool := decide (x < 384) && !decide (x / 32 = 10) && decide (x % 32 < kNf (x / 32)) && bAny (fdT.getD (cxM m) []) k x
def bSw (T : List mjEn) (pc : Nat) (df lo hi : Int) (offs : Array Int) (x : Nat) : Bool := decide (lo = (kSws.getD x (0, [], 0)).1) && decide (hi + 1 = lo + offs.size) && decide ((kSws.getD x (0, [], 0)).2.1.length = offs.size) && okB T pc df (kSws.getD x (0, [], 0)).2.2 && (List.range offs.size).all (fun j => match offs[j]? with | some off => okB T pc off ((kSws.getD x (0, [], 0)).2.1.getD j (kSws.getD x (0, [], 0)).2.2) | none => false)
def bGs (m k x : Nat) : Bool := (decide (x < 105) || decide (x = 200) || decide (x = 201) || decide (x = 202)) && bAny (fsT.getD (cxM m) []) k x
def bAn (m k x : Nat) : Bool := !decide (x = 25) || bAny (ckT.getD (cxM m) []) k x
def bNew (m i pc k x : Nat) : Bool := !decide (x = 777) || (decide (kcn (cxM m) = "KeySteward$Keys") && decide (k = 18) && decide (decode (kYN m).2 (pc + 3) = .ok (.dup, 1)) && decide (decode (kYN m).2 (pc + 4) = .ok (.aload_n 0, 1)) && decide (decode (kYN m).2 (pc + 5) = .ok (.invokespecial 120, 3)) && (match (kPP m)[i + 4]? with | some e' => decide (e'.1 = pc + 8) | none => true))
def bVi (m k x : Nat) : Bool := (!decide (x = 1002) || bAny (ocT.getD (cxM m) []) k x) && (decide (x = 1002) || decide (x = 9999) || bAny (vcT.getD (cxM m) []) k x)
def bSt (m k x : Nat) : Bool := (!decide (x = 1006) || bAny (acT.getD (cxM m) []) k x) && (!decide (x = 1008) || (decide (kcn (cxM m) = "java/lang/StringLatin1") && decide (k = 9))) && (decide (x = 1006) || decide (x = 1008) || decide (x = 9999) || bAny (scQt.getD (cxM m) []) k x)
def bK (m i : Nat) (e : mjEn) : Bool := match e.2.1 with
  | .ldc k => bLdc m k e.2.2.1 e.2.2.2
  | .ldc_w k => bLdc m k e.2.2.1 e.2.2.2
  | .ldc2_w k => bAnyZ (ljT.getD (cxM m) []) k e.2.2.2
  | .getfield k => bGet m k e.2.2.1
  | .putfield k => bPut m k e.2.2.1
  | .if_icmp _ off => okB (kPP m) e.1 off e.2.2.1
  | .ifCond _ off => okB (kPP m) e.1 off e.2.2.1
  | .if_acmp _ off => okB (kPP m) e.1 off e.2.2.1
  | .ifnull off => okB (kPP m) e.1 off e.2.2.1
  | .ifnonnull off => okB (kPP m) e.1 off e.2.2.1
  | .goto off => okB (kPP m) e.1 off e.2.2.1
  | .tableswitch df lo hi offs => bSw (kPP m) e.1 df lo hi offs e.2.2.1
  | .getstatic k => bGs m k e.2.2.1
  | .newarray t => (!decide (e.2.2.1 = 20) || decide (t = .int)) && (!decide (e.2.2.1 = 21) || decide (t = .byte)) && (!decide (e.2.2.1 = 23) || decide (t = .long))
  | .anewarray k => bAn m k e.2.2.1
  | .new k => bNew m i e.1 k e.2.2.1
  | .invokevirtual k => bVi m k e.2.2.1
  | .invokestatic k => bSt m k e.2.2.1
  | _ => true
def bAt (m i : Nat) : Bool := match (kPP m)[i]? with
  | none => true
  | some e => decide (decode (kYN m).2 e.1 = .ok (e.2.1, kLen e.2.1 e.2.2.2)) && bK m i e && (match (kPP m)[i + 1]? with
    | none => true
    | some e' => decide (e'.1 = e.1 + kLen e.2.1 e.2.2.2))
def KKm (m : Nat) : Prop := okZ (kPP m) = true ∧ ∀ i e, (kPP m)[i]? = some e → decode (kYN m).2 e.1 = .ok (e.2.1, kLen e.2.1 e.2.2.2) ∧ bK m i e = true ∧ ∀ e', (kPP m)[i + 1]? = some e' → e'.1 = e.1 + kLen e.2.1 e.2.2.2
theorem KKm_S {m : Nat} (hz : okZ (kPP m) = true) (h : ∀ i, i < (kPP m).length → bAt m i = true) : KKm m := by
  refine ⟨hz, fun i e he => ?_⟩
  have k := h i (List.getElem?_eq_some_iff.mp he).1
  unfold bAt at k
  rw [he] at k
  have k : (decide (decode (kYN m).2 e.1 = .ok (e.2.1, kLen e.2.1 e.2.2.2)) && bK m i e && (match (kPP m)[i + 1]? with | none => true | some e' => decide (e'.1 = e.1 + kLen e.2.1 e.2.2.2))) = true := k
  rw [Bool.and_eq_true, Bool.and_eq_true] at k
  refine ⟨of_decide_eq_true k.1.1, k.1.2, fun e' he' => ?_⟩
  have k2 := k.2
  rw [he'] at k2
  exact of_decide_eq_true k2
theorem imp_b {a b : Bool} (h : (!a || b) = true) (ha : a = true) : b = true := by rw [ha] at h; exact h
theorem imp_d {p : Prop} [Decidable p] {b : Bool} (h : (!decide p || b) = true) (hp : p) : b = true := imp_b h (decide_eq_true hp)
theorem nd_d {p : Prop} [Decidable p] (h : (!decide p) = true) : ¬ p := fun hp => by rw [decide_eq_true hp] at h; cases h
theorem fd_ok {m k x : Nat} (h : (decide (x < 384) && !decide (x / 32 = 10) && decide (x % 32 < kNf (x / 32)) && bAny (fdT.getD (cxM m) []) k x) = true) : x < 384 ∧ (¬ x / 32 = 10) ∧ x % 32 < kNf (x / 32) ∧ Cond.fieldLink (kcn (cxM m)) k ((kCl (x / 32)).2.1 (x % 32)).1 ((kCl (x / 32)).2.1 (x % 32)).2.1 ((kCl (x / 32)).2.1 (x % 32)).2.2.1 ∈ kw := by
  rw [Bool.and_eq_true, Bool.and_eq_true, Bool.and_eq_true] at h
  exact ⟨of_decide_eq_true h.1.1.1, nd_d h.1.1.2, of_decide_eq_true h.1.2, fdT_all (cxM m) _ (bAny_ok h.2)⟩
theorem sw_ok {T : List mjEn} {pc x : Nat} {df lo hi : Int} {offs : Array Int} (h : bSw T pc df lo hi offs x = true) : lo = (kSws.getD x (0, [], 0)).1 ∧ hi + 1 = lo + offs.size ∧ (kSws.getD x (0, [], 0)).2.1.length = offs.size ∧ (∃ t : Nat, (pc : Int) + df = (t : Int) ∧ ∀ e', T[(kSws.getD x (0, [], 0)).2.2]? = some e' → e'.1 = t) ∧ ∀ j, j < offs.size → ∃ (off : Int) (t : Nat), offs[j]? = some off ∧ (pc : Int) + off = (t : Int) ∧ ∀ e', T[(kSws.getD x (0, [], 0)).2.1.getD j (kSws.getD x (0, [], 0)).2.2]? = some e' → e'.1 = t := by
  unfold bSw at h
  rw [Bool.and_eq_true, Bool.and_eq_true, Bool.and_eq_true, Bool.and_eq_true] at h
  obtain ⟨⟨⟨⟨h1, h2⟩, h3⟩, h4⟩, h5⟩ := h
  refine ⟨of_decide_eq_true h1, of_decide_eq_true h2, of_decide_eq_true h3, okB_ok h4, fun j hj => ?_⟩
  have h5 := List.all_eq_true.mp h5 j (List.mem_range.mpr hj)
  cases q : offs[j]? with
  | none => rw [q] at h5; cases h5
  | some off =>
    rw [q] at h5
    obtain ⟨t, t1, t2⟩ := okB_ok h5
    exact ⟨off, t, rfl, t1, t2⟩
set_option maxHeartbeats 2000000 in
theorem bK_ok {m i pc : Nat} {ins : Instr} {x : Nat} {z : Int} (hm : m < 315) (hc : (kYN m).1.cls = kcn (cxM m)) (hd : decode (kYN m).2 pc = .ok (ins, kLen ins z)) (h : bK m i (pc, ins, x, z) = true) : kjGE kPP (kQQ kYN) m i pc ins x z := by
  refine ⟨hd, ?_⟩
  have eo : (kQQ kYN m).1.cls = kcn (cxM m) := hc
  have ldc : ∀ {k : Nat}, bLdc m k x z = true → (x = 0 → Cond.constant (kQQ kYN m).1.cls k (Int32.ofInt z) ∈ kw) ∧ (x = 1 → z.toNat < 185 ∧ (kTx z.toNat).1 = (kQQ kYN m).1.cls ∧ (kTx z.toNat).2.1 = k) := by
    intro k h
    unfold bLdc at h
    rw [Bool.and_eq_true] at h
    refine ⟨fun y => ?_, fun y => ?_⟩
    · rw [eo]; exact lcT_all (cxM m) _ (bAnyZ_ok (imp_d h.1 y))
    · have h2 := imp_d h.2 y
      rw [Bool.and_eq_true, Bool.and_eq_true] at h2
      exact ⟨of_decide_eq_true h2.1.1, (of_decide_eq_true h2.2).trans eo.symm, of_decide_eq_true h2.1.2⟩
  have ljc : ∀ {k : Nat}, bAnyZ (ljT.getD (cxM m) []) k z = true → Cond.constantLong (kQQ kYN m).1.cls k (Int64.ofInt z) ∈ kw := by
    intro k h
    rw [eo]; exact ljT_all (cxM m) _ (bAnyZ_ok h)
  have get : ∀ {k : Nat}, bGet m k x = true → (x < 1000 → x < 384 ∧ (¬ x / 32 = 10) ∧ x % 32 < kNf (x / 32) ∧ Cond.fieldLink (kQQ kYN m).1.cls k ((kCl (x / 32)).2.1 (x % 32)).1 ((kCl (x / 32)).2.1 (x % 32)).2.1 ((kCl (x / 32)).2.1 (x % 32)).2.2.1 ∈ kw) ∧ (1000 ≤ x → Cond.fieldLink (kQQ kYN m).1.cls k (kOn x).1 (kOn x).2.1 (kOn x).2.2 ∈ kw) := by
    intro k h
    unfold bGet at h
    rw [Bool.and_eq_true] at h
    refine ⟨fun y => ?_, fun y => ?_⟩
    · rw [eo]; exact fd_ok (imp_d h.1 y)
    · rw [eo]; exact foT_all (cxM m) _ (bAny_ok (imp_d h.2 y))
  have put : ∀ {k : Nat}, bPut m k x = true → x < 384 ∧ (¬ x / 32 = 10) ∧ x % 32 < kNf (x / 32) ∧ Cond.fieldLink (kQQ kYN m).1.cls k ((kCl (x / 32)).2.1 (x % 32)).1 ((kCl (x / 32)).2.1 (x % 32)).2.1 ((kCl (x / 32)).2.1 (x % 32)).2.2.1 ∈ kw := by
    intro k h
    rw [eo]; exact fd_ok h
  have gs : ∀ {k : Nat}, bGs m k x = true → (x < 105 ∨ x = 200 ∨ x = 201 ∨ x = 202) ∧ Cond.fieldLink (kQQ kYN m).1.cls k (kSn x).1 (kSn x).2.1 (kSn x).2.2 ∈ kw := by
    intro k h
    unfold bGs at h
    rw [Bool.and_eq_true, Bool.or_eq_true, Bool.or_eq_true, Bool.or_eq_true] at h
    refine ⟨?_, by rw [eo]; exact fsT_all (cxM m) _ (bAny_ok h.2)⟩
    rcases h.1 with ((y | y) | y) | y
    · exact Or.inl (of_decide_eq_true y)
    · exact Or.inr (Or.inl (of_decide_eq_true y))
    · exact Or.inr (Or.inr (Or.inl (of_decide_eq_true y)))
    · exact Or.inr (Or.inr (Or.inr (of_decide_eq_true y)))
  have an : ∀ {k : Nat}, bAn m k x = true → (x = 25 → Cond.classLink (kQQ kYN m).1.cls k "KeySteward$Value" ∈ kw) := by
    intro k h y
    rw [eo]; exact ckT_all (cxM m) _ (bAny_ok (imp_d h y))
  have nw : ∀ {k : Nat}, bNew m i pc k x = true → (x = 777 → (kQQ kYN m).1.cls = "KeySteward$Keys" ∧ k = 18 ∧ decode (kQQ kYN m).2.1 (pc + 3) = .ok (.dup, 1) ∧ decode (kQQ kYN m).2.1 (pc + 4) = .ok (.aload_n 0, 1) ∧ decode (kQQ kYN m).2.1 (pc + 5) = .ok (.invokespecial 120, 3) ∧ ∀ e', (kPP m)[i + 4]? = some e' → e'.1 = pc + 8) := by
    intro k h y
    have h := imp_d h y
    rw [Bool.and_eq_true, Bool.and_eq_true, Bool.and_eq_true, Bool.and_eq_true, Bool.and_eq_true] at h
    obtain ⟨⟨⟨⟨⟨h1, h2⟩, h3⟩, h4⟩, h5⟩, h6⟩ := h
    refine ⟨eo.trans (of_decide_eq_true h1), of_decide_eq_true h2, of_decide_eq_true h3, of_decide_eq_true h4, of_decide_eq_true h5, fun e' he' => ?_⟩
    rw [he'] at h6
    exact of_decide_eq_true h6
  have vi : ∀ {k : Nat}, bVi m k x = true → (x = 1002 → Cond.methodLink (kQQ kYN m).1.cls k yOrx ∈ kw) ∧ ((¬ x = 1002) → (¬ x = 9999) → kCal (kQQ kYN m).1.cls (kQQ kYN x) k ∧ Cond.instanceMethod (kQQ kYN x).1 ∈ kw ∧ Cond.selects (kCn (kQQ kYN x).2.2.2.2.2) (kQQ kYN x).1 (kQQ kYN x).1 ∈ kw ∧ ((kQQ kYN x).2.2.2.2.2 < 20 → (kQQ kYN x).2.2.2.2.2 < 12 ∧ ¬ (kQQ kYN x).2.2.2.2.2 = 10)) := by
    intro k h
    unfold bVi at h
    rw [Bool.and_eq_true] at h
    refine ⟨fun y => ?_, fun y1 y2 => ?_⟩
    · rw [eo]; exact ocT_all (cxM m) _ (bAny_ok (imp_d h.1 y))
    · have h2 := h.2
      rw [Bool.or_eq_true, Bool.or_eq_true] at h2
      rcases h2 with (w | w) | w
      · exact absurd (of_decide_eq_true w) y1
      · exact absurd (of_decide_eq_true w) y2
      · have hin := bAny_ok w
        obtain ⟨⟨c1, c2, c3, c4⟩, v1, v2, v3⟩ := kvA_all x (vc_in (cxM m) (cx_lt m hm) _ hin)
        refine ⟨⟨c1, c2, ?_, c3, c4⟩, v1, v2, v3⟩
        rw [eo]; exact vcT_all (cxM m) _ hin
  have st : ∀ {k : Nat}, bSt m k x = true → (x = 1006 → Cond.methodLink (kQQ kYN m).1.cls k arraycopyName ∈ kw ∧ Cond.native arraycopyName ∈ kw ∧ Cond.static arraycopyName ∈ kw ∧ Cond.initialized "java/lang/System" ∈ kw) ∧ (x = 1008 → (kQQ kYN m).1.cls = "java/lang/StringLatin1" ∧ k = 9) ∧ ((¬ x = 1006) → (¬ x = 1008) → (¬ x = 9999) → kCal (kQQ kYN m).1.cls (kQQ kYN x) k ∧ Cond.static (kQQ kYN x).1 ∈ kw) := by
    intro k h
    unfold bSt at h
    rw [Bool.and_eq_true, Bool.and_eq_true] at h
    refine ⟨fun y => ⟨?_, ac_w⟩, fun y => ?_, fun y1 y2 y3 => ?_⟩
    · rw [eo]; exact acT_all (cxM m) _ (bAny_ok (imp_d h.1.1 y))
    · have h2 := imp_d h.1.2 y
      rw [Bool.and_eq_true] at h2
      exact ⟨eo.trans (of_decide_eq_true h2.1), of_decide_eq_true h2.2⟩
    · have h2 := h.2
      rw [Bool.or_eq_true, Bool.or_eq_true, Bool.or_eq_true] at h2
      rcases h2 with ((w | w) | w) | w
      · exact absurd (of_decide_eq_true w) y1
      · exact absurd (of_decide_eq_true w) y2
      · exact absurd (of_decide_eq_true w) y3
      · have hin := bAny_ok w
        obtain ⟨⟨c1, c2, c3, c4⟩, v1⟩ := ksA_all x (sc_in (cxM m) (cx_lt m hm) _ hin)
        refine ⟨⟨c1, c2, ?_, c3, c4⟩, v1⟩
        rw [eo]; exact scQt_all (cxM m) _ hin
  cases ins <;> first | exact ldc h | exact ljc h | exact get h | exact put h | exact okB_ok h | exact sw_ok h | exact gs h | exact an h | exact nw h | exact vi h | exact st h | trivial | skip
  all_goals
    rename_i t
    have h : ((!decide (x = 20) || decide (t = .int)) && (!decide (x = 21) || decide (t = .byte)) && (!decide (x = 23) || decide (t = .long))) = true := h
    rw [Bool.and_eq_true, Bool.and_eq_true] at h
    exact ⟨fun y => ⟨of_decide_eq_true (imp_d h.1.1 y), na_w.1⟩, fun y => ⟨of_decide_eq_true (imp_d h.1.2 y), na_w.2.1⟩, fun y => ⟨of_decide_eq_true (imp_d h.2 y), na_w.2.2⟩⟩
end KOKC
