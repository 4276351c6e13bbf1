/-! The constructor's first half: its steps. -/
section ALLOC2
variable {p : Program} {l : Launch} {e : Env} {R : Room} {s : State} {m : MethodId} {args : Array Value} {below : List Frame} {meth : Method} {c : Code} {H : Heap} {locs : List Loc} {cells slots : Nat} {Q : State → Prop} {A : Nat → Prop} {dC : Nat → ClassId} {dI : Nat → Nat → Nat} {ls : Array Slot} {rest : List Value}
theorem in_push (hx : p.tables.exec = Jvm.exec) (hb : c.code = (mjQQ mjYN 1).2.1) (hown : s.vm.findClass RX13 = some m.cls) (hkw : ∀ w ∈ kw, w.before args s = true) {i pc : Nat} {ins : Instr} {x : Nat} {z : Int} {v : Int32} (hi : (mjPP 1)[i]? = some (pc, ins, x, z)) (hv : pvI ins z = some v) (k : W p l e R s m args below meth c H locs cells slots Q (F0 m (pc + mjLen ins) ls (.int v :: rest))) : W p l e R s m args below meth c H locs cells slots Q (F0 m pc ls rest) := by
  obtain ⟨⟨hd, hg⟩, -⟩ := mj_ok 1 i pc ins x z hi
  cases ins with
  | iconst n => exact lv_iconst hx hb hd (Option.some.inj hv) k
  | bipush n => exact lv_bipush hx hb hd (Option.some.inj hv) k
  | sipush n => exact lv_sipush hx hb hd (Option.some.inj hv) k
  | ldc q =>
    have ev : Int32.ofInt z = v := Option.some.inj hv
    subst ev
    exact lv_ldc hx hb hown (hkw _ hg) hd k
  | ldc_w q =>
    have ev : Int32.ofInt z = v := Option.some.inj hv
    subst ev
    exact lv_ldcw hx hb hown (hkw _ hg) hd k
  | _ => cases hv
theorem in_pushL (hx : p.tables.exec = Jvm.exec) (hb : c.code = (mjQQ mjYN 1).2.1) {i pc : Nat} {ins : Instr} {x : Nat} {z : Int} {v : Int64} (hi : (mjPP 1)[i]? = some (pc, ins, x, z)) (hv : pvL ins = some v) (k : W p l e R s m args below meth c H locs cells slots Q (F0 m (pc + mjLen ins) ls (.long v :: rest))) : W p l e R s m args below meth c H locs cells slots Q (F0 m pc ls rest) := by
  obtain ⟨⟨hd, hg⟩, -⟩ := mj_ok 1 i pc ins x z hi
  cases ins with
  | lconst n => exact lv_lconst hx hb hd (Option.some.inj hv) k
  | _ => cases hv
theorem tx_own : ∀ j, j < 116 → (TX13 j).1 = RX13 := by decide +kernel
theorem ty_arr : ∀ j, j < 116 → mjTc j = 9 → tyX13 j = .array (tyK (mjKd (mjHn j))) := by decide +kernel
theorem in_set (hx : p.tables.exec = Jvm.exec) (hb : c.code = (mjQQ mjYN 1).2.1) (hown : s.vm.findClass RX13 = some m.cls) (hkw : ∀ w ∈ kw, w.before args s = true) (hin : meth.name = "<init>") {i pc idx j : Nat} {z : Int} {v : Value} {h0 : Nat} {FV : Nat → Value} {L : va_W} {tys : List (ClassId × FieldType)} (hi : (mjPP 1)[i]? = some (pc, .putfield idx, j, z)) (hj : j < 116) (hn : narrow (tyX13 j) v = v) (hf : fits (tyX13 j) v = true) (hK : va_K (dC, dI) classes tys s) (hP : va_P (dC, dI) classes ((h0, .inr (10, (List.range 116).map FV)) :: L) H) (hD : va_D A ((h0, .inr (10, (List.range 116).map FV)) :: L)) (hS : va_S A s.heap H locs)
    (k : ∀ (H : Heap) (locs : List Loc), va_P (dC, dI) classes ((h0, .inr (10, (List.range 116).map (fun q => if q = j then v else FV q))) :: L) H → va_D A ((h0, .inr (10, (List.range 116).map (fun q => if q = j then v else FV q))) :: L) → va_S A s.heap H locs → W p l e R s m args below meth c H locs cells slots Q (F0 m (pc + 3) ls rest)) :
    W p l e R s m args below meth c H locs cells slots Q (F0 m pc ls (v :: .ref h0 :: rest)) := by
  obtain ⟨⟨hd, hg1, hg2⟩, -⟩ := mj_ok 1 i pc _ j z hi
  have eq := mj_range_set FV 116 j v
  have hl : j < ((List.range 116).map FV).length := by rw [List.length_map, List.length_range]; exact hj
  have kk : ∀ (H : Heap) (locs : List Loc), va_P (dC, dI) classes ((h0, .inr (10, ((List.range 116).map FV).set j v)) :: L) H → va_D A ((h0, .inr (10, ((List.range 116).map FV).set j v)) :: L) → va_S A s.heap H locs → W p l e R s m args below meth c H locs cells slots Q (F0 m (pc + 3) ls rest) := by
    rw [eq]; exact k
  cases hfin : (TX13 j).2.2.2 with
  | true => exact va_putF (D := (dC, dI)) (ci := 10) (v := v) (ty := tyX13 j) (C := RX13) (T := TX13) (N := 116) hx hb hkw kin_X13 tyX13 tyX13_ok nmX13 hown hK hP hD hS 0 rfl rfl j hj (hkw _ hg2) (fun _ h9 => h9) hfin hin (tx_own j hj) (tyX13_ok j hj) hn hf hl hd kk
  | false => exact va_put (D := (dC, dI)) (ci := 10) (v := v) (ty := tyX13 j) (C := RX13) (T := TX13) (N := 116) hx hb hkw kin_X13 tyX13 tyX13_ok nmX13 hown hK hP hD hS 0 rfl rfl j hj (hkw _ hg2) (fun _ h9 => h9) hfin (tyX13_ok j hj) hn hf hl hd kk
theorem ar_in : ∀ kd, kd < 4 → Cond.arrayClass (tyK kd) ∈ kw := by
  intro kd hk
  have : kd = 0 ∨ kd = 1 ∨ kd = 2 ∨ kd = 3 := by omega
  rcases this with rfl | rfl | rfl | rfl
  · exact kw_tab (tl_in (tb_1 (List.mem_of_getElem? (i := 124) (by decide +kernel)))) rfl
  · exact kw_tab (tl_in (tb_1 (List.mem_of_getElem? (i := 63) (by decide +kernel)))) rfl
  · exact kw_tab (tl_in (tb_11 (List.mem_of_getElem? (i := 120) (by decide +kernel)))) rfl
  · exact kw_tab (tl_in (tb_2 (List.mem_of_getElem? (i := 80) (by decide +kernel)))) rfl
theorem at_ty (kd : Nat) : newarray.typeOf (atK kd) = tyK kd := by
  match kd with
  | 0 => rfl
  | 1 => rfl
  | 2 => rfl
  | n + 3 => rfl
theorem zr_cell {h : Nat} (hk : mjKd h < 4) (cA : ClassId) : vp_cell cA (zrA h) = arrV cA (mjLn h) (fun _ => defaultValue (tyK (mjKd h))) := by
  unfold zrA
  have : mjKd h = 0 ∨ mjKd h = 1 ∨ mjKd h = 2 ∨ mjKd h = 3 := by omega
  rcases this with e | e | e | e <;> rw [e] <;> rfl
end ALLOC2
