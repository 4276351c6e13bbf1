/-! The constructor's first half: all its rows. -/
section ALLOC3
variable {p : Program} {l : Launch} {e : Env} {R : Room} {s : State} {m : MethodId} {args : Array Value} {below : List Frame} {meth : Method} {c : Code} {Q : State → Prop} {A : Nat → Prop} {dC : Nat → ClassId} {dI : Nat → Nat → Nat} {ls : Array Slot}
theorem isA_x {i : Nat} (h : isA i = true) : ∃ x z, (mjPP 1)[i]? = some (pcN i, .aload_n 0, x, z) := by
  unfold isA at h
  unfold pcN
  cases q : (mjPP 1)[i]? with
  | none => rw [q] at h; cases h
  | some a =>
    obtain ⟨pc, ins, x, z⟩ := a
    rw [q] at h
    cases ins <;> first | (have h := of_decide_eq_true h; subst h; exact ⟨x, z, rfl⟩) | cases h
theorem isI_x {i : Nat} {v : Int32} (h : isI i v = true) : ∃ ins x z, (mjPP 1)[i]? = some (pcN i, ins, x, z) ∧ pvI ins z = some v := by
  unfold isI at h
  unfold pcN
  cases q : (mjPP 1)[i]? with
  | none => rw [q] at h; cases h
  | some a =>
    obtain ⟨pc, ins, x, z⟩ := a
    rw [q] at h
    exact ⟨ins, x, z, rfl, of_decide_eq_true h⟩
theorem isL_x {i : Nat} {v : Int64} (h : isL i v = true) : ∃ ins x z, (mjPP 1)[i]? = some (pcN i, ins, x, z) ∧ pvL ins = some v := by
  unfold isL at h
  unfold pcN
  cases q : (mjPP 1)[i]? with
  | none => rw [q] at h; cases h
  | some a =>
    obtain ⟨pc, ins, x, z⟩ := a
    rw [q] at h
    exact ⟨ins, x, z, rfl, of_decide_eq_true h⟩
theorem isN_x {i kd : Nat} (h : isN i kd = true) : ∃ x z, (mjPP 1)[i]? = some (pcN i, .newarray (atK kd), x, z) := by
  unfold isN at h
  unfold pcN
  cases q : (mjPP 1)[i]? with
  | none => rw [q] at h; cases h
  | some a =>
    obtain ⟨pc, ins, x, z⟩ := a
    rw [q] at h
    cases ins <;> first | (have h := of_decide_eq_true h; subst h; exact ⟨x, z, rfl⟩) | cases h
theorem isP_x {i j : Nat} (h : isP i j = true) : ∃ idx z, (mjPP 1)[i]? = some (pcN i, .putfield idx, j, z) := by
  unfold isP at h
  unfold pcN
  cases q : (mjPP 1)[i]? with
  | none => rw [q] at h; cases h
  | some a =>
    obtain ⟨pc, ins, x, z⟩ := a
    rw [q] at h
    cases ins <;> first | (have h := of_decide_eq_true h; subst h; exact ⟨_, z, rfl⟩) | cases h
theorem pc_nx {i pc : Nat} {ins : Instr} {x : Nat} {z : Int} {a : mjEn} (h : (mjPP 1)[i]? = some (pc, ins, x, z)) (h2 : (mjPP 1)[i + 1]? = some a) : pcN (i + 1) = pc + mjLen ins := by
  have := (mj_ok 1 i pc ins x z h).2.1 a h2
  unfold pcN
  rw [h2]; exact this
theorem it_some : ∀ j, j < 117 → ((mjPP 1)[itL.getD j 0]?).isSome = true := by decide +kernel
theorem pFV_s (ad : Nat → Nat) (j : Nat) : (fun q => if q = j then mjR ad (mjFv Z0 j) else pFV ad j q) = pFV ad (j + 1) := by
  funext q
  unfold pFV
  by_cases c : q = j
  · subst c; rw [if_pos rfl, if_pos (by omega)]
  · rw [if_neg c]
    by_cases c2 : q < j
    · rw [if_pos c2, if_pos (by omega)]
    · rw [if_neg c2, if_neg (by omega)]
def adU (ad : Nat → Nat) (h q : Nat) : Nat → Nat := fun i => if i = h then q else ad i
def ckU (ck : Nat → ClassId) (h : Nat) (q : ClassId) : Nat → ClassId := fun i => if i = h then q else ck i
theorem pFV_u {ad : Nat → Nat} {j q : Nat} (hj : j < 116) : pFV (adU ad (naF j + 1) q) j = pFV ad j := by
  funext k
  unfold pFV
  by_cases c : k < j
  · rw [if_pos c, if_pos c]
    unfold mjFv
    rcases tc_5 k (by omega) with e | e | e | e
    · rw [e]; rfl
    · rw [e]; rfl
    · rw [e]; rfl
    · rw [e]
      show Value.ref (adU ad (naF j + 1) q (mjHn k)) = Value.ref (ad (mjHn k))
      unfold adU
      rw [if_neg (by have := hn_le j (by omega) k (by omega) c e; omega)]
  · rw [if_neg c, if_neg c]
theorem pwA_u {ck : Nat → ClassId} {ad : Nat → Nat} {n q : Nat} {k : ClassId} : pwA (ckU ck (n + 1) k) (adU ad (n + 1) q) (n + 1) = pwA ck ad n ++ [(q, .inl (k, zrA (n + 1)))] := by
  unfold pwA
  rw [List.range_succ, List.map_append]
  have e1 : (List.range n).map (fun i => ((adU ad (n + 1) q (i + 1), .inl (ckU ck (n + 1) k (i + 1), zrA (i + 1))) : Nat × va_E)) = (List.range n).map (fun i => (ad (i + 1), .inl (ck (i + 1), zrA (i + 1)))) := by
    refine List.map_congr_left (fun i hi => ?_)
    have hi := List.mem_range.mp hi
    unfold adU ckU
    rw [if_neg (by omega), if_neg (by omega)]
  rw [e1]
  show _ ++ [((if n + 1 = n + 1 then q else ad (n + 1)), _)] = _
  unfold ckU
  rw [if_pos rfl]
  show _ ++ [(q, Sum.inl ((if n + 1 = n + 1 then k else ck (n + 1)), zrA (n + 1)))] = _
  rw [if_pos rfl]
theorem ptY_u {ck : Nat → ClassId} {n : Nat} {k : ClassId} : ptY (ckU ck (n + 1) k) (n + 1) = ptY ck n ++ [(k, tyK (mjKd (n + 1)))] := by
  unfold ptY
  rw [List.range_succ, List.map_append]
  have e1 : (List.range n).map (fun i => (ckU ck (n + 1) k (i + 1), tyK (mjKd (i + 1)))) = (List.range n).map (fun i => (ck (i + 1), tyK (mjKd (i + 1)))) := by
    refine List.map_congr_left (fun i hi => ?_)
    have hi := List.mem_range.mp hi
    unfold ckU
    rw [if_neg (by omega)]
  rw [e1]
  show _ ++ [((if n + 1 = n + 1 then k else ck (n + 1)), _)] = _
  rw [if_pos rfl]
theorem cb_le (kd : Nat) : componentBytes (tyK kd) ≤ 8 := by
  match kd with
  | 0 => decide
  | 1 => decide
  | 2 => decide
  | n + 3 => show componentBytes .long ≤ 8; decide
theorem ln_le : ∀ h, h < 61 → mjLn h ≤ 700000 := by decide +kernel
set_option maxHeartbeats 4000000 in
theorem in_item (hx : p.tables.exec = Jvm.exec) (hb : c.code = (mjQQ mjYN 1).2.1) (hown : s.vm.findClass RX13 = some m.cls) (hkw : ∀ w ∈ kw, w.before args s = true) (hin : meth.name = "<init>") (hA : ∀ q : Nat, s.heap.size ≤ q → A q) (hR : 60 ≤ R.cells ∧ 3453384 ≤ R.slots) {h0 : Nat} (hl : lv_has ls 2 [(0, .ref h0)]) {j : Nat} (hj : j < 116) {ck : Nat → ClassId} {ad : Nat → Nat} {H : Heap} {locs : List Loc} (e0 : ad 0 = h0) (hK : va_K (dC, dI) classes (ptY ck (naF j)) s) (hP : va_P (dC, dI) classes (pW0 ck ad j) H) (hD : va_D A (pW0 ck ad j)) (hS : va_S A s.heap H locs)
    (k : ∀ (ck' : Nat → ClassId) (ad' : Nat → Nat) (H : Heap) (locs : List Loc), ad' 0 = h0 → va_K (dC, dI) classes (ptY ck' (naF (j + 1))) s → va_P (dC, dI) classes (pW0 ck' ad' (j + 1)) H → va_D A (pW0 ck' ad' (j + 1)) → va_S A s.heap H locs → W p l e R s m args below meth c H locs (naF (j + 1)) (slF (j + 1)) Q (F0 m (pcN (itL.getD (j + 1) 0)) ls [])) :
    W p l e R s m args below meth c H locs (naF j) (slF j) Q (F0 m (pcN (itL.getD j 0)) ls []) := by
  have ch := chJ_all j hj
  unfold chJ at ch
  rw [Bool.and_eq_true] at ch
  obtain ⟨ch0, ch⟩ := ch
  obtain ⟨x0, z0, hi0⟩ := isA_x ch0
  have hd0 := (mj_ok 1 _ _ _ _ _ hi0).1.1
  have nl := na_le (j + 1) (by omega)
  obtain ⟨en, hen⟩ := Option.isSome_iff_exists.mp (it_some (j + 1) (by omega))
  refine lv_aload_n hx hb hd0 rfl (lv_at hl 0 rfl) ?_
  have hv0 : ∀ v, mjR ad (mjFv Z0 j) = v → ∀ {i : Nat}, ¬ mjTc j = 9 → narrow (tyX13 j) v = v → fits (tyX13 j) v = true → isP i j = true → itL.getD (j + 1) 0 = i + 1 → W p l e R s m args below meth c H locs (naF j) (slF j) Q (F0 m (pcN i) ls [v, .ref h0]) := by
    intro v ev i n9 hn hf hp hi
    obtain ⟨idx, z2, hi2⟩ := isP_x hp
    have hP : va_P (dC, dI) classes ((h0, .inr (10, (List.range 116).map (pFV ad j))) :: pwA ck ad (naF j)) H := by rw [← e0]; exact hP
    have hD : va_D A ((h0, .inr (10, (List.range 116).map (pFV ad j))) :: pwA ck ad (naF j)) := by rw [← e0]; exact hD
    refine in_set hx hb hown hkw hin hi2 hj hn hf hK hP hD hS (fun H locs hP hD hS => ?_)
    rw [← ev, pFV_s] at hP hD
    have na1 : naF (j + 1) = naF j := by show naF j + (if mjTc j = 9 then 1 else 0) = _; rw [if_neg n9]; rfl
    have sn1 : slF (j + 1) = slF j := by show slF j + (if mjTc j = 9 then _ else 0) = _; rw [if_neg n9]; rfl
    have k := k ck ad H locs e0
    unfold pW0 at k
    rw [na1, sn1, e0] at k
    have pe : pcN (itL.getD (j + 1) 0) = pcN i + 3 := by rw [hi]; rw [hi] at hen; exact pc_nx hi2 hen
    rw [pe] at k
    exact k hK hP hD hS
  rcases tc_5 j hj with tc | tc | tc | tc
  · rw [if_neg (by omega), if_neg (by omega)] at ch
    simp only [Bool.and_eq_true] at ch
    obtain ⟨⟨ch1, ch2⟩, ch3⟩ := ch
    obtain ⟨ins, x1, z1, hi1, hv⟩ := isI_x ch1
    have p1 : pcN (itL.getD j 0) + 1 = pcN (itL.getD j 0 + 1) := (pc_nx hi0 hi1).symm
    rw [p1]
    refine in_push hx hb hown hkw hi1 hv ?_
    obtain ⟨idx, z2, hi2⟩ := isP_x ch2
    rw [← pc_nx hi1 hi2]
    have ty := (mjTc_ok j hj).1 tc
    exact hv0 (.int (Z0.1 j)) (by unfold mjFv; rw [tc]; rfl) (by omega) (by rw [ty.1]; rfl) (by rw [ty.1]; rfl) ch2 (of_decide_eq_true ch3)
  · rw [if_neg (by omega), if_neg (by omega)] at ch
    simp only [Bool.and_eq_true] at ch
    obtain ⟨⟨ch1, ch2⟩, ch3⟩ := ch
    obtain ⟨ins, x1, z1, hi1, hv⟩ := isI_x ch1
    have p1 : pcN (itL.getD j 0) + 1 = pcN (itL.getD j 0 + 1) := (pc_nx hi0 hi1).symm
    rw [p1]
    refine in_push hx hb hown hkw hi1 hv ?_
    obtain ⟨idx, z2, hi2⟩ := isP_x ch2
    rw [← pc_nx hi1 hi2]
    have ty := (mjTc_ok j hj).2.1 tc
    have bb := mj_bool (Z0_ty.1 j tc)
    exact hv0 (.int (Z0.1 j)) (by unfold mjFv; rw [tc]; rfl) (by omega) (by rw [ty.1]; exact bb.1) (by rw [ty.1]; exact bb.2.1) ch2 (of_decide_eq_true ch3)
  · rw [if_neg (by omega), if_pos tc] at ch
    simp only [Bool.and_eq_true] at ch
    obtain ⟨⟨ch1, ch2⟩, ch3⟩ := ch
    obtain ⟨ins, x1, z1, hi1, hv⟩ := isL_x ch1
    have p1 : pcN (itL.getD j 0) + 1 = pcN (itL.getD j 0 + 1) := (pc_nx hi0 hi1).symm
    rw [p1]
    refine in_pushL hx hb hi1 hv ?_
    obtain ⟨idx, z2, hi2⟩ := isP_x ch2
    rw [← pc_nx hi1 hi2]
    have ty := (mjTc_ok j hj).2.2 tc
    exact hv0 (.long 0) (by unfold mjFv; rw [tc]; rfl) (by omega) (by rw [ty.1]; rfl) (by rw [ty.1]; rfl) ch2 (of_decide_eq_true ch3)
  · rw [if_pos tc] at ch
    simp only [Bool.and_eq_true] at ch
    obtain ⟨⟨⟨⟨⟨ch1, ch2⟩, ch3⟩, ch4⟩, ch5⟩, ch6⟩ := ch
    have ch4 : itL.getD (j + 1) 0 = itL.getD j 0 + 4 := of_decide_eq_true ch4
    have ch5 : mjHn j = naF j + 1 := of_decide_eq_true ch5
    have ch6 : mjKd (mjHn j) < 4 := of_decide_eq_true ch6
    have na1 : naF (j + 1) = naF j + 1 := by show naF j + (if mjTc j = 9 then 1 else 0) = _; rw [if_pos tc]
    have sn1 : slF (j + 1) = slF j + mjLn (mjHn j) := by show slF j + (if mjTc j = 9 then _ else 0) = _; rw [if_pos tc]
    obtain ⟨ins, x1, z1, hi1, hv⟩ := isI_x ch1
    obtain ⟨x2, z2, hi2⟩ := isN_x ch2
    obtain ⟨idx, z3, hi3⟩ := isP_x ch3
    have p1 : pcN (itL.getD j 0) + 1 = pcN (itL.getD j 0 + 1) := (pc_nx hi0 hi1).symm
    rw [p1]
    refine in_push hx hb hown hkw hi1 hv ?_
    rw [← pc_nx hi1 hi2]
    have hln := ln_le (mjHn j) (by omega)
    have hd2 := (mj_ok 1 _ _ _ _ _ hi2).1.1
    have hbb : mjLn (mjHn j) * componentBytes (tyK (mjKd (mjHn j))) ≤ 536870912 := Nat.le_trans (Nat.mul_le_mul hln (cb_le _)) (by decide)
    refine va_newa (atype := atK (mjKd (mjHn j))) (a0 := zrA (mjHn j)) (N' := mjLn (mjHn j)) (n := nI (mjLn (mjHn j))) (ty := tyK (mjKd (mjHn j))) hx hb (by rw [at_ty]; exact hkw _ (ar_in _ ch6)) (at_ty _) hK hP hD hS hA (zr_cell ch6) (nI_n0 (by omega)) (nI_clamp (by omega)) hbb (by omega) (by omega) hd2 (fun q cA H hK hP hD hS => ?_)
    have p3 : pcN (itL.getD j 0 + 1 + 1) + 2 = pcN (itL.getD j 0 + 1 + 1 + 1) := (pc_nx hi2 hi3).symm
    rw [p3]
    have eW : pW0 ck ad j ++ [(q, .inl (cA, zrA (mjHn j)))] = (h0, .inr (10, (List.range 116).map (pFV (adU ad (naF j + 1) q) j))) :: pwA (ckU ck (naF j + 1) cA) (adU ad (naF j + 1) q) (naF j + 1) := by
      rw [pFV_u hj, pwA_u, ch5]
      show (ad 0, _) :: (pwA ck ad (naF j) ++ _) = _
      rw [e0]
    rw [eW] at hP hD
    have eK : ptY ck (naF j) ++ [(cA, tyK (mjKd (mjHn j)))] = ptY (ckU ck (naF j + 1) cA) (naF j + 1) := by rw [ptY_u, ch5]
    rw [eK] at hK
    refine in_set hx hb hown hkw hin hi3 hj (by rw [ty_arr j hj tc]; rfl) (by rw [ty_arr j hj tc]; rfl) hK hP hD hS (fun H locs hP hD hS => ?_)
    have ev : mjR (adU ad (naF j + 1) q) (mjFv Z0 j) = .ref q := by
      unfold mjFv
      rw [tc]
      show Value.ref (adU ad (naF j + 1) q (mjHn j)) = _
      unfold adU; rw [if_pos ch5]
    rw [← ev, pFV_s] at hP hD
    have pe : pcN (itL.getD (j + 1) 0) = pcN (itL.getD j 0 + 3) + 3 := by rw [ch4]; rw [ch4] at hen; exact pc_nx hi3 hen
    have e00 : adU ad (naF j + 1) q 0 = h0 := by unfold adU; rw [if_neg (by omega)]; exact e0
    have k := k (ckU ck (naF j + 1) cA) (adU ad (naF j + 1) q) H locs e00
    unfold pW0 at k
    rw [na1, sn1, e00, pe] at k
    exact k hK hP hD hS
theorem in_all (hx : p.tables.exec = Jvm.exec) (hb : c.code = (mjQQ mjYN 1).2.1) (hown : s.vm.findClass RX13 = some m.cls) (hkw : ∀ w ∈ kw, w.before args s = true) (hin : meth.name = "<init>") (hA : ∀ q : Nat, s.heap.size ≤ q → A q) (hR : 60 ≤ R.cells ∧ 3453384 ≤ R.slots) {h0 : Nat} (hl : lv_has ls 2 [(0, .ref h0)])
    (k : ∀ (ck : Nat → ClassId) (ad : Nat → Nat) (H : Heap) (locs : List Loc), ad 0 = h0 → va_K (dC, dI) classes (ptY ck (naF 116)) s → va_P (dC, dI) classes (pW0 ck ad 116) H → va_D A (pW0 ck ad 116) → va_S A s.heap H locs → W p l e R s m args below meth c H locs (naF 116) (slF 116) Q (F0 m (pcN (itL.getD 116 0)) ls [])) : ∀ (n j : Nat), j + n = 116 → ∀ (ck : Nat → ClassId) (ad : Nat → Nat) (H : Heap) (locs : List Loc), ad 0 = h0 → va_K (dC, dI) classes (ptY ck (naF j)) s → va_P (dC, dI) classes (pW0 ck ad j) H → va_D A (pW0 ck ad j) → va_S A s.heap H locs → W p l e R s m args below meth c H locs (naF j) (slF j) Q (F0 m (pcN (itL.getD j 0)) ls []) := by
  intro n
  induction n with
  | zero =>
    intro j hj ck ad H locs e0 hK hP hD hS
    have : j = 116 := by omega
    subst this
    exact k ck ad H locs e0 hK hP hD hS
  | succ n ih =>
    intro j hj ck ad H locs e0 hK hP hD hS
    exact in_item hx hb hown hkw hin hA hR hl (by omega) e0 hK hP hD hS (fun ck' ad' H locs e0 hK hP hD hS => ih (j + 1) (by omega) ck' ad' H locs e0 hK hP hD hS)
end ALLOC3
