/-! Commands and their functions: those that write. -/
set_option maxRecDepth 20000
section KJONE
variable {Y : Nat → MethodName × ByteArray} {d : Nat} {σ u : kS} {B ws nmm : List (List Int32)} {ks : List KC}
theorem sfG {i s : Nat} {A : List AK} (e : sfB i 0 ws A = soW A ws 1 (nI s)) (hw : ws[1]? = some (gw ws 1)) : sfB i 0 ws A = soT A (gw ws 1) (nI s) := e.trans (soW_at hw)
theorem sfG2 {i s : Nat} {A : List AK} (e : sfB i 0 ws A = (soW A ws 1 (nI s) && soW A ws 2 (nI s))) (hw : ws[1]? = some (gw ws 1)) (hw2 : ws[2]? = some (gw ws 2)) : sfB i 0 ws A = (soT A (gw ws 1) (nI s) && soT A (gw ws 2) (nI s)) := by rw [e, soW_at hw, soW_at hw2]
theorem o_nf {o c : Option (List AK)} {rp : Int32} {j : Nat} (hj : (kCmd j).2.2.2.1 &&& 1 = 0) (_h1 : fuB rp ks j → o = none) (h2 : ¬ fuB rp ks j → o = c) : o = c := h2 (fun z => z.2.2 hj)
variable {A : List AK} {n : Int64}
theorem sr_0 (e : intF (gw ws 2) = none) : coF 14 ws A = none := by show ((intF (gw ws 2)).bind _).bind _ = none; rw [e]; rfl
theorem sr_1 (e : intF (gw ws 2) = some n) (c : n < 0) : coF 14 ws A = none := by show ((intF (gw ws 2)).bind _).bind _ = none; rw [e]; show (if n < 0 ∨ _ then none else some n).bind _ = none; rw [if_pos (Or.inl c)]; rfl
theorem sr_2 (e : intF (gw ws 2) = some n) (c : ¬ n < 0) : coF 14 ws A = srF A (gw ws 1) (gw ws 3) n.toInt.toNat := by show ((intF (gw ws 2)).bind _).bind _ = _; rw [e]; show (if n < 0 ∨ (false = true ∧ 131071 < n) then none else some n).bind _ = _; rw [if_neg (fun z => z.elim c (fun y => by cases y.1))]; rfl
theorem ppR_n (ws : Req) : ppR ws = (poN ws).bind (fun n => if n < 0 then none else some n) := by
  unfold ppR poN
  by_cases c : 2 < ws.length
  · rw [if_pos c, List.getElem?_eq_getElem c, show ws.getD 2 [] = ws[2] by rw [List.getD_eq_getElem?_getD, List.getElem?_eq_getElem c]; rfl]
    show srR false ws[2] = _
    unfold srR
    cases intF ws[2] with
    | none => rfl
    | some n =>
      show (if n < 0 ∨ (false = true ∧ 131071 < n) then none else some n) = if n < 0 then none else some n
      by_cases q : n < 0
      · rw [if_pos q, if_pos (Or.inl q)]
      · rw [if_neg q, if_neg (fun z => z.elim q (fun y => by cases y.1))]
  · rw [if_neg c, List.getElem?_eq_none (by omega)]; rfl
theorem pp_0 {f : Int64 → Option (List AK)} (e : poN ws = none) : (ppR ws).bind f = none := by rw [ppR_n, e]; rfl
theorem pp_1 {f : Int64 → Option (List AK)} (e : poN ws = some n) (c : n < 0) : (ppR ws).bind f = none := by rw [ppR_n, e]; show (if n < 0 then none else some n).bind f = none; rw [if_pos c]; rfl
theorem pp_2 {f : Int64 → Option (List AK)} (e : poN ws = some n) (c : ¬ n < 0) : (ppR ws).bind f = f n := by rw [ppR_n, e]; show (if n < 0 then none else some n).bind f = _; rw [if_neg c]; rfl
theorem neg_msb (x : Int64) : x < 0 ↔ x.toBitVec.msb = true := by
  rw [Int64.lt_iff_toInt_lt, BitVec.msb_eq_toInt, decide_eq_true_iff]; exact Iff.rfl
theorem ov_one (v : Int64) : ovW true v 1 < 0 ↔ ovW false v (-1) < 0 := by
  show (v ^^^ 1) &&& (v ^^^ (v - 1)) < 0 ↔ (v ^^^ (v + -1)) &&& (-1 ^^^ (v + -1)) < 0
  rw [← Int64.sub_eq_add_neg, neg_msb, neg_msb, Int64.toBitVec_and, Int64.toBitVec_and, Int64.toBitVec_xor, Int64.toBitVec_xor, Int64.toBitVec_xor, BitVec.msb_and, BitVec.msb_and, BitVec.msb_xor, BitVec.msb_xor, BitVec.msb_xor, show (1 : Int64).toBitVec.msb = false by decide, show (-1 : Int64).toBitVec.msb = true by decide]
  cases v.toBitVec.msb <;> cases (v - 1).toBitVec.msb <;> decide
theorem bey_lt (q : Int64) : (if (0 : Int32) ≤ lg_cmp q 0 then (0 : Int32) else 1) = 0 ↔ ¬ q < 0 := by
  by_cases c : (0 : Int32) ≤ lg_cmp q 0
  · rw [if_pos c]; exact ⟨fun _ => Int64.not_lt.mpr ((lg_cmp_ge _ _).mp c), fun _ => rfl⟩
  · rw [if_neg c]; exact ⟨fun z => absurd z (by decide), fun z => absurd ((lg_cmp_ge _ _).mpr (Int64.not_lt.mp z)) c⟩
theorem ic_g {w : List Int32} {i : Nat} {b : Int64} {less : Bool} {m : Int64} (h1 : ∀ v, (beyI i v (byI i b) = 0 ↔ ¬ ovW less v m < 0)) (h2 : ∀ v, sumI i v (byI i b) = ovS less v m) : icF A w i b = cnF A w less m := by
  unfold icF cnF
  cases vlA A w with
  | none => rfl
  | some v =>
    show (if beyI i v (byI i b) = 0 then some (putA A w (dec (sumI i v (byI i b)))) else none) = if ovW less v m < 0 then none else some (putA A w (dec (ovS less v m)))
    rw [h2]
    by_cases c : ovW less v m < 0
    · rw [if_pos c, if_neg (fun z => (h1 v).mp z c)]
    · rw [if_neg c, if_pos ((h1 v).mpr c)]
theorem ic_150 (e : stpC ws 30 = none) : coF 15 ws A = none := by cases (show some (1 : Int64) = none from e)
theorem ic_160 (e : stpC ws 3 = none) : coF 16 ws A = none := by cases (show some (1 : Int64) = none from e)
theorem ic_15 (e : stpC ws 30 = some n) : coF 15 ws A = cnF A (gw ws 1) (decide (30 = 3 ∨ 30 = 4)) n := by
  cases (show some (1 : Int64) = some n from e)
  exact ic_g (fun v => ovI_0 v 1) (fun v => rfl)
theorem ic_16 (e : stpC ws 3 = some n) : coF 16 ws A = cnF A (gw ws 1) (decide (3 = 3 ∨ 3 = 4)) n := by
  cases (show some (1 : Int64) = some n from e)
  exact ic_g (less := true) (fun v => (ovI_0 v (-1)).trans (not_congr (ov_one v).symm)) (fun v => (Int64.sub_eq_add_neg v 1).symm)
theorem ic_180 (hw : ws[2]? = some (gw ws 2)) (e : stpC ws 4 = none) : coF 18 ws A = none := by
  have e2 : intF (gw ws 2) = none := by rw [← e, show stpC ws 4 = (ws[2]?).bind intF from rfl, hw]; rfl
  show (intF (gw ws 2)).bind _ = none; rw [e2]; rfl
theorem ic_170 (hw : ws[2]? = some (gw ws 2)) (e : stpC ws 31 = none) : coF 17 ws A = none := by
  have e2 : intF (gw ws 2) = none := by rw [← e, show stpC ws 31 = (ws[2]?).bind intF from rfl, hw]; rfl
  show (intF (gw ws 2)).bind _ = none; rw [e2]; rfl
theorem ic_17 (hw : ws[2]? = some (gw ws 2)) (e : stpC ws 31 = some n) : coF 17 ws A = cnF A (gw ws 1) (decide (31 = 3 ∨ 31 = 4)) n := by
  have e2 : intF (gw ws 2) = some n := by rw [← e, show stpC ws 31 = (ws[2]?).bind intF from rfl, hw]; rfl
  show (intF (gw ws 2)).bind _ = _; rw [e2]
  exact ic_g (fun v => ovI_0 v n) (fun v => rfl)
theorem ic_18 (hw : ws[2]? = some (gw ws 2)) (e : stpC ws 4 = some n) : coF 18 ws A = cnF A (gw ws 1) (decide (4 = 3 ∨ 4 = 4)) n := by
  have e2 : intF (gw ws 2) = some n := by rw [← e, show stpC ws 4 = (ws[2]?).bind intF from rfl, hw]; rfl
  show (intF (gw ws 2)).bind _ = _; rw [e2]
  exact ic_g (less := true) (fun v => bey_lt _) (fun v => rfl)
theorem li_1 (e : (gw ws 2).map up = tb 148 ∨ (gw ws 2).map up = tb 149) : coF 47 ws A = liF A (gw ws 1) (gw ws 2) (gw ws 3) (gw ws 4) := if_pos (e.elim (fun z => Or.inr ((isT (by decide)).mpr z)) (fun z => Or.inl ((isT (by decide)).mpr z)))
theorem li_0 (e1 : ¬ (gw ws 2).map up = tb 148) (e2 : ¬ (gw ws 2).map up = tb 149) : coF 47 ws A = none := if_neg (fun z => z.elim (fun q => e2 ((isT (by decide)).mp q)) (fun q => e1 ((isT (by decide)).mp q)))
theorem siD_J (v : List Int32) : siD v = true ↔ isJ 151 v ∨ isJ 152 v := by
  unfold siD
  rw [decide_eq_true_iff, isT (i := 151) (by decide), isT (i := 152) (by decide)]
theorem leI_J (v : List Int32) : leI v = if isJ 151 v then 1 else 0 := by
  unfold leI
  by_cases c : isJ 151 v
  · rw [if_pos c]; exact (isT (by decide)).mpr c
  · rw [if_neg c]; exact (isF_01 v _).resolve_right (fun z => c ((isT (by decide)).mp z))
theorem lm_e : coF 50 ws A = (lmC (Int32.ofInt 1) (gw ws 3) (gw ws 4)).bind (fun q => mvF A (gw ws 1) (gw ws 2) q.1 q.2) := by
  show (if (siD (gw ws 3) && siD (gw ws 4)) = true then mvF A (gw ws 1) (gw ws 2) (leI (gw ws 3)) (leI (gw ws 4)) else none) = _
  rw [show lmC (Int32.ofInt 1) (gw ws 3) (gw ws 4) = if (isJ 151 (gw ws 3) ∨ isJ 152 (gw ws 3)) ∧ (isJ 151 (gw ws 4) ∨ isJ 152 (gw ws 4)) then some (if isJ 151 (gw ws 3) then 1 else 0, if isJ 151 (gw ws 4) then 1 else 0) else none from if_neg (by decide)]
  by_cases c : (isJ 151 (gw ws 3) ∨ isJ 152 (gw ws 3)) ∧ (isJ 151 (gw ws 4) ∨ isJ 152 (gw ws 4))
  · rw [if_pos c, if_pos (show (siD (gw ws 3) && siD (gw ws 4)) = true by rw [Bool.and_eq_true]; exact ⟨(siD_J _).mpr c.1, (siD_J _).mpr c.2⟩), leI_J, leI_J]; rfl
  · rw [if_neg c, if_neg (fun z : (siD (gw ws 3) && siD (gw ws 4)) = true => c (by rw [Bool.and_eq_true] at z; exact ⟨(siD_J _).mp z.1, (siD_J _).mp z.2⟩))]; rfl
theorem lm_0 (e : lmC (Int32.ofInt 1) (gw ws 3) (gw ws 4) = none) : coF 50 ws A = none := by rw [lm_e, e]; rfl
theorem lm_1 {fl tl : Int32} (e : lmC (Int32.ofInt 1) (gw ws 3) (gw ws 4) = some (fl, tl)) : coF 50 ws A = mvF A (gw ws 1) (gw ws 2) fl tl := by rw [lm_e, e]; rfl
theorem lm_2 {fl tl : Int32} (e : lmC (Int32.ofInt 0) [] [] = some (fl, tl)) : coF 51 ws A = mvF A (gw ws 1) (gw ws 2) fl tl := by cases (show some ((0 : Int32), (1 : Int32)) = some (fl, tl) from e); rfl
/-- APPEND -/
theorem kc_0 (ty : kTY σ) (h : JC B σ ws nmm ks 0) : kjY kPP (kQQ Y) (d + 10) 162 0 (mjL0 2 [.ref 67, .ref (1000000 + 0)]) [] σ (cmP B σ ws nmm ks 0 (rnC (σ.1 59 17) (σ.2.1 59 16) ks 0 ws)) :=
  kr_0 (d := d + 1) ty cmP.n (cm_1 (i := 11) (s := 0) ty h rfl (by decide) (sfG rfl (h.gw_ (a := 2) (k := 1) rfl (by decide) (by decide)).2) (fun o h1 h2 => kx_append (d := d + 2) ty h.1 h.2.1 h.hB h.hj (h.gw_ (a := 2) (k := 1) rfl (by decide) (by decide)).2 (h.gw_ (a := 2) (k := 2) rfl (by decide) (by decide)).2 h.k1 h.tx (by have := h.wl (h.gw_ (a := 2) (k := 2) rfl (by decide) (by decide)).2; omega) h.xt h1 h2))
/-- DECR -/
theorem kc_3 (ty : kTY σ) (h : JC B σ ws nmm ks 3) : kjY kPP (kQQ Y) (d + 10) 162 0 (mjL0 2 [.ref 67, .ref (1000000 + 3)]) [] σ (cmP B σ ws nmm ks 3 (rnC (σ.1 59 17) (σ.2.1 59 16) ks 3 ws)) :=
  kr_3 (d := d + 1) ty cmP.n (cm_1 (i := 16) (s := 0) ty h rfl (by decide) (sfG rfl (h.gw_ (a := 1) (k := 1) rfl (by decide) (by decide)).2) (fun o h1 h2 => kx_count (d := d + 2) ty h.1 h.2.1 h.hB h.hj (h.gw_ (a := 1) (k := 1) rfl (by decide) (by decide)).2 (fun q => by rcases q with q | q <;> cases q) h.k1 h.xt (fun e => o_no h1 h2 (ic_160  e)) h1 (fun n e np => (h2 np).trans (ic_16  e))))
/-- DECRBY -/
theorem kc_4 (ty : kTY σ) (h : JC B σ ws nmm ks 4) : kjY kPP (kQQ Y) (d + 10) 162 0 (mjL0 2 [.ref 67, .ref (1000000 + 4)]) [] σ (cmP B σ ws nmm ks 4 (rnC (σ.1 59 17) (σ.2.1 59 16) ks 4 ws)) :=
  kr_4 (d := d + 1) ty cmP.n (cm_1 (i := 18) (s := 0) ty h rfl (by decide) (sfG rfl (h.gw_ (a := 2) (k := 1) rfl (by decide) (by decide)).2) (fun o h1 h2 => kx_count (d := d + 2) ty h.1 h.2.1 h.hB h.hj (h.gw_ (a := 2) (k := 1) rfl (by decide) (by decide)).2 (fun q => (h.gw_ (a := 2) (k := 2) rfl (by decide) (by decide)).1) h.k1 h.xt (fun e => o_no h1 h2 (ic_180 (h.gw_ (a := 2) (k := 2) rfl (by decide) (by decide)).2 e)) h1 (fun n e np => (h2 np).trans (ic_18 (h.gw_ (a := 2) (k := 2) rfl (by decide) (by decide)).2 e))))
/-- DEL -/
theorem kc_5 (ty : kTY σ) (h : JC B σ ws nmm ks 5) : kjY kPP (kQQ Y) (d + 10) 150 0 (mjL0 2 [.ref 59, .ref (1000000 + 5)]) [] σ (cmP B σ ws nmm ks 5 (rnC (σ.1 59 17) (σ.2.1 59 16) ks 5 ws)) :=
  kr_5 (d := d + 1) ty cmP.n (cm_0 (i := 22) ty h rfl (by decide) rfl (fun o h1 h2 => kx_del (d := d + 3) ty h.1 h.2.1 h.hB h.n1.1 (o_nf (by decide) h1 h2)))
/-- FLUSHALL -/
theorem kc_12 (ty : kTY σ) (h : JC B σ ws nmm ks 12) : kjY kPP (kQQ Y) (d + 10) 150 0 (mjL0 2 [.ref 59, .ref (1000000 + 12)]) [] σ (cmP B σ ws nmm ks 12 (rnC (σ.1 59 17) (σ.2.1 59 16) ks 12 ws)) :=
  kr_12 (d := d + 1) ty cmP.n (cm_0 (i := 29) ty h rfl (by decide) rfl (fun o h1 h2 => kx_flush (d := d + 1) ty h.1 h.2.2.2.2.1.2 (o_nf (by decide) h1 h2)))
/-- HDEL -/
theorem kc_18 (ty : kTY σ) (h : JC B σ ws nmm ks 18) : kjY kPP (kQQ Y) (d + 10) 202 0 (mjL0 2 [.ref 71, .ref (1000000 + 18)]) [] σ (cmP B σ ws nmm ks 18 (rnC (σ.1 59 17) (σ.2.1 59 16) ks 18 ws)) :=
  kr_18 (d := d + 1) ty cmP.n (cm_1 (i := 56) (s := 2) ty h rfl (by decide) (sfG rfl (h.gw_ (a := 2) (k := 1) rfl (by decide) (by decide)).2) (fun o h1 h2 => kx_removeAll (d := d + 2) ty h.1 h.2.1 h.hB h.hj (h.gw_ (a := 2) (k := 1) rfl (by decide) (by decide)).2 (h.gw_ (a := 2) (k := 1) rfl (by decide) (by decide)).1 h.s23 (s := 2) (Or.inl rfl) _ rfl 56 (by decide) h1 h2))
/-- HINCRBY -/
theorem kc_22 (ty : kTY σ) (h : JC B σ ws nmm ks 22) : kjY kPP (kQQ Y) (d + 10) 202 0 (mjL0 2 [.ref 71, .ref (1000000 + 22)]) [] σ (cmP B σ ws nmm ks 22 (rnC (σ.1 59 17) (σ.2.1 59 16) ks 22 ws)) :=
  kr_22 (d := d + 1) ty cmP.n (cm_1 (i := 63) (s := 2) ty h rfl (by decide) (sfG rfl (h.gw_ (a := 3) (k := 1) rfl (by decide) (by decide)).2) (fun o h1 h2 => kx_hincr (d := d + 2) ty h.1 h.2.1 h.hB h.hj (h.gw_ (a := 3) (k := 1) rfl (by decide) (by decide)).2 (h.gw_ (a := 3) (k := 2) rfl (by decide) (by decide)).2 (h.gw_ (a := 3) (k := 3) rfl (by decide) (by decide)).2 h.s2 h.k1 (by have := h.cl; omega) (h.bn rfl) (fun e => o_b h1 h2 e) h1 (fun n e np => by have t := o_s h2 e np; exact t)))
/-- HSET -/
theorem kc_26 (ty : kTY σ) (h : JC B σ ws nmm ks 26) : kjY kPP (kQQ Y) (d + 10) 202 0 (mjL0 2 [.ref 71, .ref (1000000 + 26)]) [] σ (cmP B σ ws nmm ks 26 (rnC (σ.1 59 17) (σ.2.1 59 16) ks 26 ws)) :=
  kr_26 (d := d + 1) ty cmP.n (cm_1 (i := 52) (s := 2) ty h rfl (by decide) (sfG rfl (h.gw_ (a := 3) (k := 1) rfl (by decide) (by decide)).2) (fun o h1 h2 => kx_hset (d := d + 2) ty h.1 h.2.1 h.hB h.hj (h.gw_ (a := 3) (k := 1) rfl (by decide) (by decide)).2 (n := (ws.length - 4) / 2) (by
    have z := tk_od (j := 26) (n := ws.length - 1) (by have := h.n1; omega) (by decide) h.tk
    have := (h.gw_ (a := 3) (k := 3) rfl (by decide) (by decide)).1; have := h.n1; omega) h.s2 h.k1 (by have := h.cl; have := h.n1; omega) (gw ws 2) (mbT (skA ks) (gw ws 1) (gw ws 2)) h1 h2))
/-- HSETNX -/
theorem kc_27 (ty : kTY σ) (h : JC B σ ws nmm ks 27) : kjY kPP (kQQ Y) (d + 10) 202 0 (mjL0 2 [.ref 71, .ref (1000000 + 27)]) [] σ (cmP B σ ws nmm ks 27 (rnC (σ.1 59 17) (σ.2.1 59 16) ks 27 ws)) :=
  kr_27 (d := d + 1) ty cmP.n (cm_1 (i := 53) (s := 2) ty h rfl (by decide) (sfG rfl (h.gw_ (a := 3) (k := 1) rfl (by decide) (by decide)).2) (fun o h1 h2 => kx_hsetnx (d := d + 2) ty h.1 h.2.1 h.hB h.hj (h.gw_ (a := 3) (k := 1) rfl (by decide) (by decide)).2 (h.gw_ (a := 3) (k := 2) rfl (by decide) (by decide)).2 (h.gw_ (a := 3) (k := 3) rfl (by decide) (by decide)).2 (by
    have z := tk_hi (j := 27) (a := 3) (n := ws.length - 1) rfl (by decide) (by have := h.n1; omega) h.tk
    have := (h.gw_ (a := 3) (k := 3) rfl (by decide) (by decide)).1; omega) h.s2 h.k1 (by have := h.cl; have := h.n1; omega) h1 h2))
/-- INCR -/
theorem kc_30 (ty : kTY σ) (h : JC B σ ws nmm ks 30) : kjY kPP (kQQ Y) (d + 10) 162 0 (mjL0 2 [.ref 67, .ref (1000000 + 30)]) [] σ (cmP B σ ws nmm ks 30 (rnC (σ.1 59 17) (σ.2.1 59 16) ks 30 ws)) :=
  kr_30 (d := d + 1) ty cmP.n (cm_1 (i := 15) (s := 0) ty h rfl (by decide) (sfG rfl (h.gw_ (a := 1) (k := 1) rfl (by decide) (by decide)).2) (fun o h1 h2 => kx_count (d := d + 2) ty h.1 h.2.1 h.hB h.hj (h.gw_ (a := 1) (k := 1) rfl (by decide) (by decide)).2 (fun q => by rcases q with q | q <;> cases q) h.k1 h.xt (fun e => o_no h1 h2 (ic_150  e)) h1 (fun n e np => (h2 np).trans (ic_15  e))))
/-- INCRBY -/
theorem kc_31 (ty : kTY σ) (h : JC B σ ws nmm ks 31) : kjY kPP (kQQ Y) (d + 10) 162 0 (mjL0 2 [.ref 67, .ref (1000000 + 31)]) [] σ (cmP B σ ws nmm ks 31 (rnC (σ.1 59 17) (σ.2.1 59 16) ks 31 ws)) :=
  kr_31 (d := d + 1) ty cmP.n (cm_1 (i := 17) (s := 0) ty h rfl (by decide) (sfG rfl (h.gw_ (a := 2) (k := 1) rfl (by decide) (by decide)).2) (fun o h1 h2 => kx_count (d := d + 2) ty h.1 h.2.1 h.hB h.hj (h.gw_ (a := 2) (k := 1) rfl (by decide) (by decide)).2 (fun q => (h.gw_ (a := 2) (k := 2) rfl (by decide) (by decide)).1) h.k1 h.xt (fun e => o_no h1 h2 (ic_170 (h.gw_ (a := 2) (k := 2) rfl (by decide) (by decide)).2 e)) h1 (fun n e np => (h2 np).trans (ic_17 (h.gw_ (a := 2) (k := 2) rfl (by decide) (by decide)).2 e))))
/-- LINSERT -/
theorem kc_34 (ty : kTY σ) (h : JC B σ ws nmm ks 34) : kjY kPP (kQQ Y) (d + 10) 188 0 (mjL0 2 [.ref 70, .ref (1000000 + 34)]) [] σ (cmP B σ ws nmm ks 34 (rnC (σ.1 59 17) (σ.2.1 59 16) ks 34 ws)) :=
  kr_34 (d := d + 1) ty cmP.n (cm_1 (i := 47) (s := 1) ty h rfl (by decide) (sfG rfl (h.gw_ (a := 4) (k := 1) rfl (by decide) (by decide)).2) (fun o h1 h2 => kx_insB (d := d + 2) ty h.1 h.2.1 h.hB h.hj (h.gw_ (a := 4) (k := 1) rfl (by decide) (by decide)).2 (h.gw_ (a := 4) (k := 2) rfl (by decide) (by decide)).2 (h.gw_ (a := 4) (k := 3) rfl (by decide) (by decide)).2 (h.gw_ (a := 4) (k := 4) rfl (by decide) (by decide)).2 (by have := h.cl; have := h.n1; omega) (fun e1 e2 => o_no h1 h2 (li_0 e1 e2)) h1 (fun e np => (h2 np).trans (li_1 e))))
/-- LMOVE -/
theorem kc_36 (ty : kTY σ) (h : JC B σ ws nmm ks 36) : kjY kPP (kQQ Y) (d + 10) 188 0 (mjL0 2 [.ref 70, .ref (1000000 + 36)]) [] σ (cmP B σ ws nmm ks 36 (rnC (σ.1 59 17) (σ.2.1 59 16) ks 36 ws)) :=
  kr_36 (d := d + 1) ty cmP.n (cm_2 (i := 50) (s := 1) ty h rfl (by decide) (sfG2 rfl (h.gw_ (a := 4) (k := 1) rfl (by decide) (by decide)).2 (h.gw_ (a := 4) (k := 2) rfl (by decide) (by decide)).2) (fun o h1 h2 => kx_lmove (d := d + 2) ty h.1 h.2.1 h.hB h.hj (h.gw_ (a := 4) (k := 1) rfl (by decide) (by decide)).2 (h.gw_ (a := 4) (k := 2) rfl (by decide) (by decide)).2 h.em h.k1 (by have := h.cl; omega) _ (gw ws 3) (gw ws 4) (fun _ => ⟨(h.gw_ (a := 4) (k := 3) rfl (by decide) (by decide)).2, (h.gw_ (a := 4) (k := 4) rfl (by decide) (by decide)).2⟩) (fun e => o_no h1 h2 (lm_0 e)) h1 (fun fl tl e np => (h2 np).trans (lm_1 e))))
/-- LPOP -/
theorem kc_37 (ty : kTY σ) (h : JC B σ ws nmm ks 37) : kjY kPP (kQQ Y) (d + 10) 188 0 (mjL0 2 [.ref 70, .ref (1000000 + 37)]) [] σ (cmP B σ ws nmm ks 37 (rnC (σ.1 59 17) (σ.2.1 59 16) ks 37 ws)) :=
  kr_37 (d := d + 1) ty cmP.n (cm_1 (i := 41) (s := 1) ty h rfl (by decide) (sfG rfl (h.gw_ (a := 1) (k := 1) rfl (by decide) (by decide)).2) (fun o h1 h2 => kx_pop (d := d + 2) ty h.1 h.2.1 h.hB h.hj (h.gw_ (a := 1) (k := 1) rfl (by decide) (by decide)).2 41 (Or.inl rfl) _ rfl (fun e => o_no h1 h2 (pp_0 e)) (fun z e c => o_no h1 h2 (pp_1 e c)) h1 (fun z e c np => (h2 np).trans (pp_2 e c))))
/-- LPUSH -/
theorem kc_38 (ty : kTY σ) (h : JC B σ ws nmm ks 38) : kjY kPP (kQQ Y) (d + 10) 188 0 (mjL0 2 [.ref 70, .ref (1000000 + 38)]) [] σ (cmP B σ ws nmm ks 38 (rnC (σ.1 59 17) (σ.2.1 59 16) ks 38 ws)) :=
  kr_38 (d := d + 1) ty cmP.n (cm_1 (i := 37) (s := 1) ty h rfl (by decide) (sfG rfl (h.gw_ (a := 2) (k := 1) rfl (by decide) (by decide)).2) (fun o h1 h2 => kx_push (d := d + 2) ty h.1 h.2.1 h.hB h.hj (h.gw_ (a := 2) (k := 1) rfl (by decide) (by decide)).2 (h.gw_ (a := 2) (k := 2) rfl (by decide) (by decide)).1 h.k1 (by have := h.cl; have := h.n1; omega) 37 _ _ rfl rfl h1 h2))
/-- LPUSHX -/
theorem kc_39 (ty : kTY σ) (h : JC B σ ws nmm ks 39) : kjY kPP (kQQ Y) (d + 10) 188 0 (mjL0 2 [.ref 70, .ref (1000000 + 39)]) [] σ (cmP B σ ws nmm ks 39 (rnC (σ.1 59 17) (σ.2.1 59 16) ks 39 ws)) :=
  kr_39 (d := d + 1) ty cmP.n (cm_1 (i := 39) (s := 1) ty h rfl (by decide) (sfG rfl (h.gw_ (a := 2) (k := 1) rfl (by decide) (by decide)).2) (fun o h1 h2 => kx_push (d := d + 2) ty h.1 h.2.1 h.hB h.hj (h.gw_ (a := 2) (k := 1) rfl (by decide) (by decide)).2 (h.gw_ (a := 2) (k := 2) rfl (by decide) (by decide)).1 h.k1 (by have := h.cl; have := h.n1; omega) 39 _ _ rfl rfl h1 h2))
/-- LREM -/
theorem kc_41 (ty : kTY σ) (h : JC B σ ws nmm ks 41) : kjY kPP (kQQ Y) (d + 10) 188 0 (mjL0 2 [.ref 70, .ref (1000000 + 41)]) [] σ (cmP B σ ws nmm ks 41 (rnC (σ.1 59 17) (σ.2.1 59 16) ks 41 ws)) :=
  kr_41 (d := d + 1) ty cmP.n (cm_1 (i := 48) (s := 1) ty h rfl (by decide) (sfG rfl (h.gw_ (a := 3) (k := 1) rfl (by decide) (by decide)).2) (fun o h1 h2 => kx_lremC (d := d + 2) ty h.1 h.2.1 h.hB h.hj (h.gw_ (a := 3) (k := 1) rfl (by decide) (by decide)).2 (h.gw_ (a := 3) (k := 2) rfl (by decide) (by decide)).2 (h.gw_ (a := 3) (k := 3) rfl (by decide) (by decide)).2 (fun e => o_b h1 h2 e) h1 (fun a e np => by have t := o_s h2 e np; exact t)))
/-- LSET -/
theorem kc_42 (ty : kTY σ) (h : JC B σ ws nmm ks 42) : kjY kPP (kQQ Y) (d + 10) 188 0 (mjL0 2 [.ref 70, .ref (1000000 + 42)]) [] σ (cmP B σ ws nmm ks 42 (rnC (σ.1 59 17) (σ.2.1 59 16) ks 42 ws)) :=
  kr_42 (d := d + 1) ty cmP.n (cm_1 (i := 46) (s := 1) ty h rfl (by decide) (sfG rfl (h.gw_ (a := 3) (k := 1) rfl (by decide) (by decide)).2) (fun o h1 h2 => kx_setOne (d := d + 1) ty h.1 h.2.1 h.hB h.hj (h.gw_ (a := 3) (k := 1) rfl (by decide) (by decide)).2 (h.gw_ (a := 3) (k := 2) rfl (by decide) (by decide)).2 (h.gw_ (a := 3) (k := 3) rfl (by decide) (by decide)).2 (fun e => o_b h1 h2 e) h1 (fun a e np => by have t := o_s h2 e np; exact t)))
/-- LTRIM -/
theorem kc_43 (ty : kTY σ) (h : JC B σ ws nmm ks 43) : kjY kPP (kQQ Y) (d + 10) 188 0 (mjL0 2 [.ref 70, .ref (1000000 + 43)]) [] σ (cmP B σ ws nmm ks 43 (rnC (σ.1 59 17) (σ.2.1 59 16) ks 43 ws)) :=
  kr_43 (d := d + 1) ty cmP.n (cm_1 (i := 49) (s := 1) ty h rfl (by decide) (sfG rfl (h.gw_ (a := 3) (k := 1) rfl (by decide) (by decide)).2) (fun o h1 h2 => kx_trim (d := d + 1) ty h.1 h.2.1 h.hB h.hj (h.gw_ (a := 3) (k := 1) rfl (by decide) (by decide)).2 (h.gw_ (a := 3) (k := 2) rfl (by decide) (by decide)).2 (h.gw_ (a := 3) (k := 3) rfl (by decide) (by decide)).2 (fun e => o_b h1 h2 e) h1 (fun a b e np => by have t := o_s h2 e np; exact t)))
/-- PERSIST -/
theorem kc_48 (ty : kTY σ) (h : JC B σ ws nmm ks 48) : kjY kPP (kQQ Y) (d + 10) 150 0 (mjL0 2 [.ref 59, .ref (1000000 + 48)]) [] σ (cmP B σ ws nmm ks 48 (rnC (σ.1 59 17) (σ.2.1 59 16) ks 48 ws)) :=
  kr_48 (d := d + 1) ty cmP.n (cm_0 (i := 34) ty h rfl (by decide) rfl (fun o h1 h2 => kx_persist (d := d + 3) ty h.1 h.2.1 h.em h.te h.hB (h.gw_ (a := 1) (k := 1) rfl (by decide) (by decide)).2 (o_nf (by decide) h1 h2)))
/-- RENAME -/
theorem kc_56 (ty : kTY σ) (h : JC B σ ws nmm ks 56) : kjY kPP (kQQ Y) (d + 10) 150 0 (mjL0 2 [.ref 59, .ref (1000000 + 56)]) [] σ (cmP B σ ws nmm ks 56 (rnC (σ.1 59 17) (σ.2.1 59 16) ks 56 ws)) :=
  kr_56 (d := d + 1) ty cmP.n (cm_0 (i := 25) ty h rfl (by decide) rfl (fun o h1 h2 => kx_rename (d := d + 1) ty h.1 h.2.1 h.hB (h.gw_ (a := 2) (k := 1) rfl (by decide) (by decide)).2 (h.gw_ (a := 2) (k := 2) rfl (by decide) (by decide)).2 h.em _ (o_nf (by decide) h1 h2)))
/-- RENAMENX -/
theorem kc_57 (ty : kTY σ) (h : JC B σ ws nmm ks 57) : kjY kPP (kQQ Y) (d + 10) 150 0 (mjL0 2 [.ref 59, .ref (1000000 + 57)]) [] σ (cmP B σ ws nmm ks 57 (rnC (σ.1 59 17) (σ.2.1 59 16) ks 57 ws)) :=
  kr_57 (d := d + 1) ty cmP.n (cm_0 (i := 26) ty h rfl (by decide) rfl (fun o h1 h2 => kx_rename (d := d + 1) ty h.1 h.2.1 h.hB (h.gw_ (a := 2) (k := 1) rfl (by decide) (by decide)).2 (h.gw_ (a := 2) (k := 2) rfl (by decide) (by decide)).2 h.em _ (o_nf (by decide) h1 h2)))
/-- RPOP -/
theorem kc_58 (ty : kTY σ) (h : JC B σ ws nmm ks 58) : kjY kPP (kQQ Y) (d + 10) 188 0 (mjL0 2 [.ref 70, .ref (1000000 + 58)]) [] σ (cmP B σ ws nmm ks 58 (rnC (σ.1 59 17) (σ.2.1 59 16) ks 58 ws)) :=
  kr_58 (d := d + 1) ty cmP.n (cm_1 (i := 42) (s := 1) ty h rfl (by decide) (sfG rfl (h.gw_ (a := 1) (k := 1) rfl (by decide) (by decide)).2) (fun o h1 h2 => kx_pop (d := d + 2) ty h.1 h.2.1 h.hB h.hj (h.gw_ (a := 1) (k := 1) rfl (by decide) (by decide)).2 42 (Or.inr rfl) _ rfl (fun e => o_no h1 h2 (pp_0 e)) (fun z e c => o_no h1 h2 (pp_1 e c)) h1 (fun z e c np => (h2 np).trans (pp_2 e c))))
/-- RPOPLPUSH -/
theorem kc_59 (ty : kTY σ) (h : JC B σ ws nmm ks 59) : kjY kPP (kQQ Y) (d + 10) 188 0 (mjL0 2 [.ref 70, .ref (1000000 + 59)]) [] σ (cmP B σ ws nmm ks 59 (rnC (σ.1 59 17) (σ.2.1 59 16) ks 59 ws)) :=
  kr_59 (d := d + 1) ty cmP.n (cm_2 (i := 51) (s := 1) ty h rfl (by decide) (sfG2 rfl (h.gw_ (a := 2) (k := 1) rfl (by decide) (by decide)).2 (h.gw_ (a := 2) (k := 2) rfl (by decide) (by decide)).2) (fun o h1 h2 => kx_lmove (d := d + 2) ty h.1 h.2.1 h.hB h.hj (h.gw_ (a := 2) (k := 1) rfl (by decide) (by decide)).2 (h.gw_ (a := 2) (k := 2) rfl (by decide) (by decide)).2 h.em h.k1 (by have := h.cl; omega) _ [] [] (fun z => absurd rfl z) (fun e => absurd (show (some ((0 : Int32), (1 : Int32))) = none from e) (by simp)) h1 (fun fl tl e np => (h2 np).trans (lm_2 e))))
/-- RPUSH -/
theorem kc_60 (ty : kTY σ) (h : JC B σ ws nmm ks 60) : kjY kPP (kQQ Y) (d + 10) 188 0 (mjL0 2 [.ref 70, .ref (1000000 + 60)]) [] σ (cmP B σ ws nmm ks 60 (rnC (σ.1 59 17) (σ.2.1 59 16) ks 60 ws)) :=
  kr_60 (d := d + 1) ty cmP.n (cm_1 (i := 38) (s := 1) ty h rfl (by decide) (sfG rfl (h.gw_ (a := 2) (k := 1) rfl (by decide) (by decide)).2) (fun o h1 h2 => kx_push (d := d + 2) ty h.1 h.2.1 h.hB h.hj (h.gw_ (a := 2) (k := 1) rfl (by decide) (by decide)).2 (h.gw_ (a := 2) (k := 2) rfl (by decide) (by decide)).1 h.k1 (by have := h.cl; have := h.n1; omega) 38 _ _ rfl rfl h1 h2))
/-- RPUSHX -/
theorem kc_61 (ty : kTY σ) (h : JC B σ ws nmm ks 61) : kjY kPP (kQQ Y) (d + 10) 188 0 (mjL0 2 [.ref 70, .ref (1000000 + 61)]) [] σ (cmP B σ ws nmm ks 61 (rnC (σ.1 59 17) (σ.2.1 59 16) ks 61 ws)) :=
  kr_61 (d := d + 1) ty cmP.n (cm_1 (i := 40) (s := 1) ty h rfl (by decide) (sfG rfl (h.gw_ (a := 2) (k := 1) rfl (by decide) (by decide)).2) (fun o h1 h2 => kx_push (d := d + 2) ty h.1 h.2.1 h.hB h.hj (h.gw_ (a := 2) (k := 1) rfl (by decide) (by decide)).2 (h.gw_ (a := 2) (k := 2) rfl (by decide) (by decide)).1 h.k1 (by have := h.cl; have := h.n1; omega) 40 _ _ rfl rfl h1 h2))
/-- SADD -/
theorem kc_62 (ty : kTY σ) (h : JC B σ ws nmm ks 62) : kjY kPP (kQQ Y) (d + 10) 203 0 (mjL0 2 [.ref 71, .ref (1000000 + 62)]) [] σ (cmP B σ ws nmm ks 62 (rnC (σ.1 59 17) (σ.2.1 59 16) ks 62 ws)) :=
  kr_62 (d := d + 1) ty cmP.n (cm_1 (i := 64) (s := 3) ty h rfl (by decide) (sfG rfl (h.gw_ (a := 2) (k := 1) rfl (by decide) (by decide)).2) (fun o h1 h2 => kx_sadd (d := d + 2) ty h.1 h.2.1 h.hB h.hj (h.gw_ (a := 2) (k := 1) rfl (by decide) (by decide)).2 (h.gw_ (a := 2) (k := 2) rfl (by decide) (by decide)).1 h.s3 h.k1 (by have := h.cl; have := h.n1; omega) h1 h2))
/-- SETRANGE -/
theorem kc_70 (ty : kTY σ) (h : JC B σ ws nmm ks 70) : kjY kPP (kQQ Y) (d + 10) 162 0 (mjL0 2 [.ref 67, .ref (1000000 + 70)]) [] σ (cmP B σ ws nmm ks 70 (rnC (σ.1 59 17) (σ.2.1 59 16) ks 70 ws)) :=
  kr_70 (d := d + 1) ty cmP.n (cm_1 (i := 14) (s := 0) ty h rfl (by decide) (sfG rfl (h.gw_ (a := 3) (k := 1) rfl (by decide) (by decide)).2) (fun o h1 h2 => kx_setRange (d := d + 2) ty h.1 h.2.1 h.hB h.hj (h.gw_ (a := 3) (k := 1) rfl (by decide) (by decide)).2 (h.gw_ (a := 3) (k := 2) rfl (by decide) (by decide)).2 (h.gw_ (a := 3) (k := 3) rfl (by decide) (by decide)).2 h.k1 h.tx (h.wl (h.gw_ (a := 3) (k := 3) rfl (by decide) (by decide)).2) h.xt (fun e => o_no h1 h2 (sr_0 e)) (fun n e c => o_no h1 h2 (sr_1 e c)) h1 (fun n e c np => (h2 np).trans (sr_2 e c))))
/-- SMOVE -/
theorem kc_76 (ty : kTY σ) (h : JC B σ ws nmm ks 76) : kjY kPP (kQQ Y) (d + 10) 203 0 (mjL0 2 [.ref 71, .ref (1000000 + 76)]) [] σ (cmP B σ ws nmm ks 76 (rnC (σ.1 59 17) (σ.2.1 59 16) ks 76 ws)) :=
  kr_76 (d := d + 1) ty cmP.n (cm_2 (i := 70) (s := 3) ty h rfl (by decide) (sfG2 rfl (h.gw_ (a := 3) (k := 1) rfl (by decide) (by decide)).2 (h.gw_ (a := 3) (k := 2) rfl (by decide) (by decide)).2) (fun o h1 h2 => kx_smove (d := d + 2) ty h.1 h.2.1 h.hB h.hj (h.gw_ (a := 3) (k := 1) rfl (by decide) (by decide)).2 (h.gw_ (a := 3) (k := 2) rfl (by decide) (by decide)).2 (h.gw_ (a := 3) (k := 3) rfl (by decide) (by decide)).2 h.s3 h.k1 (by have := h.cl; omega) h1 h2))
/-- SPOP -/
theorem kc_77 (ty : kTY σ) (h : JC B σ ws nmm ks 77) : kjY kPP (kQQ Y) (d + 10) 203 0 (mjL0 2 [.ref 71, .ref (1000000 + 77)]) [] σ (cmP B σ ws nmm ks 77 (rnC (σ.1 59 17) (σ.2.1 59 16) ks 77 ws)) :=
  kr_77 (d := d + 1) ty cmP.n (cm_1 (i := 77) (s := 3) ty h rfl (by decide) (sfG rfl (h.gw_ (a := 1) (k := 1) rfl (by decide) (by decide)).2) (fun o h1 h2 => kx_spop (d := d + 2) ty h.1 h.2.1 h.hB h.hj (h.gw_ (a := 1) (k := 1) rfl (by decide) (by decide)).2 h.em h1 h2))
/-- SREM -/
theorem kc_78 (ty : kTY σ) (h : JC B σ ws nmm ks 78) : kjY kPP (kQQ Y) (d + 10) 203 0 (mjL0 2 [.ref 71, .ref (1000000 + 78)]) [] σ (cmP B σ ws nmm ks 78 (rnC (σ.1 59 17) (σ.2.1 59 16) ks 78 ws)) :=
  kr_78 (d := d + 1) ty cmP.n (cm_1 (i := 65) (s := 3) ty h rfl (by decide) (sfG rfl (h.gw_ (a := 2) (k := 1) rfl (by decide) (by decide)).2) (fun o h1 h2 => kx_removeAll (d := d + 2) ty h.1 h.2.1 h.hB h.hj (h.gw_ (a := 2) (k := 1) rfl (by decide) (by decide)).2 (h.gw_ (a := 2) (k := 1) rfl (by decide) (by decide)).1 h.s23 (s := 3) (Or.inr rfl) _ rfl 65 (by decide) h1 h2))
/-- ZINCRBY -/
theorem kc_92 (ty : kTY σ) (h : JC B σ ws nmm ks 92) : kjY kPP (kQQ Y) (d + 10) 229 0 (mjL0 2 [.ref 75, .ref (1000000 + 92)]) [] σ (cmP B σ ws nmm ks 92 (rnC (σ.1 59 17) (σ.2.1 59 16) ks 92 ws)) :=
  kr_92 (d := d + 1) ty cmP.n (cm_1 (i := 81) (s := 4) ty h rfl (by decide) (sfG rfl (h.gw_ (a := 3) (k := 1) rfl (by decide) (by decide)).2) (fun o h1 h2 => kx_zincrby (d := d) ty h.1 h.2.1 h.hB h.hj (h.gw_ (a := 3) (k := 1) rfl (by decide) (by decide)).2 (h.gw_ (a := 3) (k := 2) rfl (by decide) (by decide)).2 (h.gw_ (a := 3) (k := 3) rfl (by decide) (by decide)).2 h.s4 h.k1 (by have := h.cl; omega) (fun e => o_b h1 h2 e) h1 (fun n e np => by have t := o_s h2 e np; exact t)))
/-- ZPOPMAX -/
theorem kc_93 (ty : kTY σ) (h : JC B σ ws nmm ks 93) : kjY kPP (kQQ Y) (d + 10) 229 0 (mjL0 2 [.ref 75, .ref (1000000 + 93)]) [] σ (cmP B σ ws nmm ks 93 (rnC (σ.1 59 17) (σ.2.1 59 16) ks 93 ws)) :=
  kr_93 (d := d + 1) ty cmP.n (cm_1 (i := 93) (s := 4) ty h rfl (by decide) (sfG rfl (h.gw_ (a := 1) (k := 1) rfl (by decide) (by decide)).2) (fun o h1 h2 => kx_zpop (d := d + 1) ty h.1 h.2.1 h.hB h.hj (h.gw_ (a := 1) (k := 1) rfl (by decide) (by decide)).2 h.s4 93 _ rfl (fun e => o_no h1 h2 (pp_0 e)) (fun z e c => o_no h1 h2 (pp_1 e c)) h1 (fun z e c np => (h2 np).trans (pp_2 e c))))
/-- ZPOPMIN -/
theorem kc_94 (ty : kTY σ) (h : JC B σ ws nmm ks 94) : kjY kPP (kQQ Y) (d + 10) 229 0 (mjL0 2 [.ref 75, .ref (1000000 + 94)]) [] σ (cmP B σ ws nmm ks 94 (rnC (σ.1 59 17) (σ.2.1 59 16) ks 94 ws)) :=
  kr_94 (d := d + 1) ty cmP.n (cm_1 (i := 92) (s := 4) ty h rfl (by decide) (sfG rfl (h.gw_ (a := 1) (k := 1) rfl (by decide) (by decide)).2) (fun o h1 h2 => kx_zpop (d := d + 1) ty h.1 h.2.1 h.hB h.hj (h.gw_ (a := 1) (k := 1) rfl (by decide) (by decide)).2 h.s4 92 _ rfl (fun e => o_no h1 h2 (pp_0 e)) (fun z e c => o_no h1 h2 (pp_1 e c)) h1 (fun z e c np => (h2 np).trans (pp_2 e c))))
/-- ZREM -/
theorem kc_98 (ty : kTY σ) (h : JC B σ ws nmm ks 98) : kjY kPP (kQQ Y) (d + 10) 229 0 (mjL0 2 [.ref 75, .ref (1000000 + 98)]) [] σ (cmP B σ ws nmm ks 98 (rnC (σ.1 59 17) (σ.2.1 59 16) ks 98 ws)) :=
  kr_98 (d := d + 1) ty cmP.n (cm_1 (i := 79) (s := 4) ty h rfl (by decide) (sfG rfl (h.gw_ (a := 2) (k := 1) rfl (by decide) (by decide)).2) (fun o h1 h2 => kx_zrem (d := d + 2) ty h.1 h.2.1 h.hB h.hj (h.gw_ (a := 2) (k := 1) rfl (by decide) (by decide)).2 (h.gw_ (a := 2) (k := 1) rfl (by decide) (by decide)).1 h.s4 h1 h2))
/-- ZREMRANGEBYRANK -/
theorem kc_99 (ty : kTY σ) (h : JC B σ ws nmm ks 99) : kjY kPP (kQQ Y) (d + 10) 229 0 (mjL0 2 [.ref 75, .ref (1000000 + 99)]) [] σ (cmP B σ ws nmm ks 99 (rnC (σ.1 59 17) (σ.2.1 59 16) ks 99 ws)) :=
  kr_99 (d := d + 1) ty cmP.n (cm_1 (i := 90) (s := 4) ty h rfl (by decide) (sfG rfl (h.gw_ (a := 3) (k := 1) rfl (by decide) (by decide)).2) (fun o h1 h2 => kx_zremrank (d := d + 2) ty h.1 h.2.1 h.hB h.hj (h.gw_ (a := 3) (k := 1) rfl (by decide) (by decide)).2 (h.gw_ (a := 3) (k := 2) rfl (by decide) (by decide)).2 (h.gw_ (a := 3) (k := 3) rfl (by decide) (by decide)).2 h.s4 (fun e => o_b h1 h2 e) h1 (fun q e np => by have t := o_s h2 e np; exact t)))
/-- ZREMRANGEBYSCORE -/
theorem kc_100 (ty : kTY σ) (h : JC B σ ws nmm ks 100) : kjY kPP (kQQ Y) (d + 10) 229 0 (mjL0 2 [.ref 75, .ref (1000000 + 100)]) [] σ (cmP B σ ws nmm ks 100 (rnC (σ.1 59 17) (σ.2.1 59 16) ks 100 ws)) :=
  kr_100 (d := d + 1) ty cmP.n (cm_1 (i := 91) (s := 4) ty h rfl (by decide) (sfG rfl (h.gw_ (a := 3) (k := 1) rfl (by decide) (by decide)).2) (fun o h1 h2 => kx_zremscore (d := d) ty h.1 h.2.1 h.hB h.hj (h.gw_ (a := 3) (k := 1) rfl (by decide) (by decide)).2 (h.gw_ (a := 3) (k := 2) rfl (by decide) (by decide)).2 (h.gw_ (a := 3) (k := 3) rfl (by decide) (by decide)).2 h.s4 (fun e => o_b h1 h2 e) h1 (fun q e np => by have t := o_s h2 e np; exact t)))
end KJONE
