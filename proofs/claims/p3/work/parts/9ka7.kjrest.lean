/-! Commands and their functions: the rest. -/
set_option maxRecDepth 20000
section KJREST
variable {Y : Nat → MethodName × ByteArray} {d : Nat} {σ u : kS} {B ws nmm : List (List Int32)} {ks : List KC} {j : Nat} {A : List AK}
theorem up_c {x c : Int32} (hc : c = 49 ∨ c = 48) (h : up x = c) : x = c := by
  unfold up at h
  by_cases q : 97 ≤ x ∧ x ≤ 122
  · rw [if_pos q] at h
    have e : x = c + 32 := by rw [← h, Int32.sub_add_cancel]
    rcases hc with rfl | rfl
    · rw [e] at q; exact absurd q.1 (by decide)
    · rw [e] at q; exact absurd q.1 (by decide)
  · rw [if_neg q] at h; exact h
theorem map_1 {a : List Int32} {c : Int32} (hc : c = 49 ∨ c = 48) (h : a.map up = [c]) : a = [c] := by
  cases a with
  | nil => cases h
  | cons x r =>
    have h : up x :: r.map up = [c] := h
    injection h with h1 h2
    cases r with
    | nil => rw [up_c hc h1]
    | cons y s => cases h2
theorem bit_1 {a : List Int32} (h : a.map up = tb 183) : intF a = some 1 := by
  have e : tb 183 = [49] := by decide +kernel
  rw [e] at h; rw [map_1 (Or.inl rfl) h]; decide +kernel
theorem bit_0 {a : List Int32} (h : a.map up = tb 184) : intF a = some 0 := by
  have e : tb 184 = [48] := by decide +kernel
  rw [e] at h; rw [map_1 (Or.inr rfl) h]; decide +kernel
theorem sb_co {n : Nat} {one : Bool} (h : sbC (gw ws 2) (gw ws 3) = some (n, one)) : coF 19 ws A = some (putA A (gw ws 1) (bsT n one (txA A (gw ws 1)))) := by
  show (sbR (gw ws 2) (gw ws 3)).bind (fun q => sbF A (gw ws 1) q.1.toInt.toNat q.2) = _
  unfold sbC at h
  cases e : intF (gw ws 2) with
  | none => rw [e] at h; cases h
  | some m =>
    rw [e] at h
    have h : (if m < 0 ∨ Int64.ofInt 131071 < m then none else if (gw ws 3).map up = tb 183 then some (m.toInt.toNat, true) else if (gw ws 3).map up = tb 184 then some (m.toInt.toNat, false) else none) = some (n, one) := h
    by_cases c : m < 0 ∨ Int64.ofInt 131071 < m
    · rw [if_pos c] at h; cases h
    · rw [if_neg c] at h
      have R : ∀ b : Int64, b = 1 ∨ b = 0 → intF (gw ws 3) = some b → sbR (gw ws 2) (gw ws 3) = some (m, b) := by
        intro b hb eb
        unfold sbR twF
        rw [e, eb]
        show (if m < 0 ∨ 131071 < m ∨ b < 0 ∨ 1 < b then none else some (m, b)) = _
        rw [if_neg]
        rintro (z | z | z | z)
        · exact c (Or.inl z)
        · exact c (Or.inr z)
        · rcases hb with rfl | rfl
          · exact absurd z (by decide)
          · exact absurd z (by decide)
        · rcases hb with rfl | rfl
          · exact absurd z (by decide)
          · exact absurd z (by decide)
      by_cases c1 : (gw ws 3).map up = tb 183
      · rw [if_pos c1] at h; cases h
        rw [R 1 (Or.inl rfl) (bit_1 c1)]; rfl
      · rw [if_neg c1] at h
        by_cases c2 : (gw ws 3).map up = tb 184
        · rw [if_pos c2] at h; cases h
          rw [R 0 (Or.inr rfl) (bit_0 c2)]; rfl
        · rw [if_neg c2] at h; cases h
/-- SETBIT -/
theorem kc_67 (ty : kTY σ) (h : JC B σ ws nmm ks 67) : kjY kPP (kQQ Y) (d + 10) 162 0 (mjL0 2 [.ref 67, .ref (1000000 + 67)]) [] σ (cmP B σ ws nmm ks 67 (rnC (σ.1 59 17) (σ.2.1 59 16) ks 67 ws)) := by
  have g1 := (h.gw_ (a := 3) (k := 1) rfl (by decide) (by decide)).2
  have g2 := (h.gw_ (a := 3) (k := 2) rfl (by decide) (by decide)).2
  have g3 := (h.gw_ (a := 3) (k := 3) rfl (by decide) (by decide)).2
  have hs : sfB 19 0 ws (skA ks) = soT (skA ks) (gw ws 1) (nI 0) := sfG rfl g1
  have e : rnC (σ.1 59 17) (σ.2.1 59 16) ks 67 ws = nW (rid 67) ws (@ite _ (rfZ (σ.1 59 17) ks 67 (gw ws 1) 0 ∨ sbC (gw ws 2) (gw ws 3) = none) (Classical.propDecidable _) none (coF 19 ws (skA ks))) := by
    unfold rnC
    by_cases c : fuB (σ.1 59 17) ks 67
    · rw [if_pos (Or.inl c), if_pos (Or.inl (show rfZ (σ.1 59 17) ks 67 (gw ws 1) 0 from Or.inl c))]; rfl
    · by_cases b : sbC (gw ws 2) (gw ws 3) = none
      · rw [if_pos (Or.inr ⟨rfl, b⟩), if_pos (Or.inr b)]; rfl
      · rw [if_neg (fun z => z.elim c (fun y => b y.2)), if_neg (fun z : rid 67 = 2 ∧ _ => absurd z.1 (by decide))]
        unfold rnF
        rw [if_neg (by decide : ¬ rid 67 = 2), if_neg (by decide : ¬ rid 67 ∈ tiI)]
        show (if sfB 19 0 ws (skA ks) = true then nW 19 ws (coF 19 ws (skA ks)) else none) = _
        by_cases q : sfB 19 0 ws (skA ks) = true
        · rw [if_pos q, if_neg (fun z => z.elim (fun y : rfZ (σ.1 59 17) ks 67 (gw ws 1) 0 => y.elim c (fun w => by rw [hs, w] at q; cases q)) b)]; rfl
        · rw [if_neg q, if_pos (Or.inl (show rfZ (σ.1 59 17) ks 67 (gw ws 1) 0 from Or.inr (by rw [← hs]; exact Bool.eq_false_iff.mpr q)))]; rfl
  rw [e]
  refine kr_67 (d := d + 1) ty cmP.n (kjY_mono ty (fun r u _ _ q => cd_cm h.hj h.2.2.2.2.1.1 h.n1.1 q) (kx_setBit (d := d + 2) ty h.1 h.2.1 h.hB h.hj g1 g2 g3 h.k1 h.tx h.xt (fun z => if_pos (Or.inr z)) (fun z => if_pos (Or.inl z)) (fun n one z np => ?_)))
  rw [if_neg (fun y => y.elim np (fun w => by rw [z] at w; cases w)), sb_co z]
/-- MSET, MSETNX -/
theorem ms_ev (h : JC B σ ws nmm ks j) (ha : (kCmd j).1 = nI 2) (hf : ¬ (kCmd j).2.2.2.1 &&& 4 = 0) : 1 + 2 * ((ws.length - 3) / 2 + 1) = ws.length := by
  have z := tk_ev (n := ws.length - 1) (by have := h.n1; omega) hf h.tk
  have := (h.gw_ ha (by decide) (show 2 ≤ 2 by decide)).1
  omega
theorem ms_pq (h : JC B σ ws nmm ks j) (hi : rid j = 9 ∨ rid j = 10) (c : ¬ fuB (σ.1 59 17) ks j) : xtA (skA ks) + sl ws + 16384 ≤ 98304 ∧ ks.length + ws.length / 2 ≤ 2600 := by
  have := (h.pq c).2.1 hi
  rw [show (skA ks).length = ks.length from List.length_map _] at this; exact this
theorem kc_45 (ty : kTY σ) (h : JC B σ ws nmm ks 45) : kjY kPP (kQQ Y) (d + 10) 162 0 (mjL0 2 [.ref 67, .ref (1000000 + 45)]) [] σ (cmP B σ ws nmm ks 45 (rnC (σ.1 59 17) (σ.2.1 59 16) ks 45 ws)) :=
  kr_45 (d := d + 1) ty cmP.n (cm_0 (i := 9) ty h rfl (by decide) rfl (fun o h1 h2 => kx_mset2 (d := d + 1) ty h.1 h.2.1 h.hB h.hj (ms_ev h rfl (by decide)) (fun w hw => (h.2.2.2.2.2.2.2.2.1 w hw).1) (ms_pq h (Or.inl rfl)) false _ rfl h1 (fun _ z => by cases z) (fun c _ => (h2 c).trans (if_neg (fun z => absurd z.1 (by decide))))))
theorem kc_46 (ty : kTY σ) (h : JC B σ ws nmm ks 46) : kjY kPP (kQQ Y) (d + 10) 162 0 (mjL0 2 [.ref 67, .ref (1000000 + 46)]) [] σ (cmP B σ ws nmm ks 46 (rnC (σ.1 59 17) (σ.2.1 59 16) ks 46 ws)) :=
  kr_46 (d := d + 1) ty cmP.n (cm_0 (i := 10) ty h rfl (by decide) rfl (fun o h1 h2 => kx_mset2 (d := d + 1) ty h.1 h.2.1 h.hB h.hj (ms_ev h rfl (by decide)) (fun w hw => (h.2.2.2.2.2.2.2.2.1 w hw).1) (ms_pq h (Or.inr rfl)) true _ rfl h1 (fun c _ z => (h2 c).trans (if_pos ⟨rfl, z⟩)) (fun c z => (h2 c).trans (if_neg (fun y => z ⟨rfl, y.2⟩)))))
/-- ZADD -/
theorem kc_89 (ty : kTY σ) (h : JC B σ ws nmm ks 89) : kjY kPP (kQQ Y) (d + 10) 229 0 (mjL0 2 [.ref 75, .ref (1000000 + 89)]) [] σ (cmP B σ ws nmm ks 89 (rnC (σ.1 59 17) (σ.2.1 59 16) ks 89 ws)) :=
  kr_89 (d := d + 1) ty cmP.n (cm_1 (i := 78) (s := 4) ty h rfl (by decide) (sfG rfl (h.gw_ (a := 3) (k := 1) rfl (by decide) (by decide)).2) (fun o h1 h2 => kx_zadd2 (d := d) ty h.1 h.2.1 h.hB h.hj (h.gw_ (a := 3) (k := 1) rfl (by decide) (by decide)).2 (h.gw_ (a := 3) (k := 1) rfl (by decide) (by decide)).1 h.s4 h.k1 (fun z => (h.pq (fun y => z (Or.inl y))).1 rfl) (fun e => o_b h1 h2 e) h1 (fun q e np => by have t := o_s h2 e np; exact t)))
/-- sets reckoned -/
theorem so_all {A : List AK} : ∀ {l : List (List Int32)}, (∀ w ∈ l, ¬ soT A w 3 = false) → soL A l = true
  | [], _ => rfl
  | w :: r, h => by
    show (soT A w 3 && soL A r) = true
    rw [Bool.and_eq_true]
    refine ⟨?_, so_all (fun v hv => h v (List.mem_cons_of_mem _ hv))⟩
    cases z : soT A w 3 with
    | true => rfl
    | false => exact absurd z (h w (List.mem_cons_self ..))
theorem so_al2 {A : List AK} : ∀ {l : List (List Int32)}, soL A l = true → ∀ w ∈ l, soT A w 3 = true
  | [], _, w, h => by cases h
  | x :: r, h, w, hw => by
    have h : (soT A x 3 && soL A r) = true := h
    rw [Bool.and_eq_true] at h
    rcases List.mem_cons.mp hw with e | e
    · rw [e]; exact h.1
    · exact so_al2 h.2 w e
theorem so_dr {f : Nat} (h : ∀ i v, f ≤ i → ws[i]? = some v → ¬ soT A v (nI 3) = false) : soL A (ws.drop f) = true := so_all (fun w hw => by
  obtain ⟨i, hi⟩ := List.mem_iff_getElem?.mp hw
  rw [List.getElem?_drop] at hi
  exact h (f + i) w (by omega) hi)
theorem eN_get : ∀ {A : List AK} {p : Nat} {a : AK}, A[p]? = some a → a.2.2.2.2.2.length ≤ eN A
  | [], p, a, h => by cases h
  | b :: r, 0, a, h => by cases h; show _ ≤ _ + eN r; omega
  | b :: r, p + 1, a, h => by
    have := eN_get (A := r) (p := p) (a := a) h
    show _ ≤ _ + eN r; omega
theorem esA_len (A : List AK) (w : List Int32) : (esA A w).length ≤ eN A := by
  unfold esA
  cases kyI A w with
  | none => exact Nat.zero_le _
  | some p =>
    show (match A[p]? with | some a => a.2.2.2.2.2 | none => []).length ≤ eN A
    cases e : A[p]? with
    | none => exact Nat.zero_le _
    | some a => exact eN_get e
theorem po_ok (hA : IA A) {how : Nat} (hh : how < 3) {f : Nat} (hf : f + 1 ≤ ws.length) (hs : soL A (ws.drop f) = true) : poM how A ws f = rkM how A ws f ∧ (poM how A ws f).length ≤ eN A ∧ (adL [] (esA A (ws.getD f []))).length ≤ eN A := by
  have k := rkM_ok hA how ws f hf hs
  have e : poM how A ws f = rkM how A ws f := po_rk hh hf (fun w hw => by
    have z := esA_ok hA (so_al2 hs w hw)
    exact ⟨z.1, fun y hy => (z.2 y hy).1.2⟩) k.1
  have l := adL_len (esA A (ws.getD f [])) []
  have l2 := esA_len A (ws.getD f [])
  exact ⟨e, by rw [e]; exact k.2.2.1, by simp only [List.length_nil] at l; omega⟩
theorem cb_l (h : JC B σ ws nmm ks j) {how : Nat} (hh : how < 3) {f : Nat} (hf : f + 1 ≤ ws.length) (hs : ∀ i v, f ≤ i → ws[i]? = some v → ¬ soT (skA ks) v (nI 3) = false) : (adL [] (esA (skA ks) (ws.getD f []))).length ≤ 8700 ∧ (how = 1 → (poM how (skA ks) ws f).length ≤ 8700) := by
  have k := po_ok h.ia hh hf (so_dr hs)
  have := h.en
  exact ⟨by omega, fun _ => by omega⟩
theorem kc_71 (ty : kTY σ) (h : JC B σ ws nmm ks 71) : kjY kPP (kQQ Y) (d + 10) 203 0 (mjL0 2 [.ref 71, .ref (1000000 + 71)]) [] σ (cmP B σ ws nmm ks 71 (rnC (σ.1 59 17) (σ.2.1 59 16) ks 71 ws)) :=
  kr_71 (d := d + 1) ty cmP.n (cm_n (i := 71) ty h rfl (by decide) (fun _ => rfl) (kx_combine (d := d + 2) (how := 0) ty h.1 h.2.1 h.hB (by decide) h.hj (h.gw_ (a := 1) (k := 1) rfl (by decide) (by decide)).1 h.s3 (fun hs => cb_l h (by decide) (h.gw_ (a := 1) (k := 1) rfl (by decide) (by decide)).1 hs)))
theorem kc_81 (ty : kTY σ) (h : JC B σ ws nmm ks 81) : kjY kPP (kQQ Y) (d + 10) 203 0 (mjL0 2 [.ref 71, .ref (1000000 + 81)]) [] σ (cmP B σ ws nmm ks 81 (rnC (σ.1 59 17) (σ.2.1 59 16) ks 81 ws)) :=
  kr_81 (d := d + 1) ty cmP.n (cm_n (i := 72) ty h rfl (by decide) (fun _ => rfl) (kx_combine (d := d + 2) (how := 1) ty h.1 h.2.1 h.hB (by decide) h.hj (h.gw_ (a := 1) (k := 1) rfl (by decide) (by decide)).1 h.s3 (fun hs => cb_l h (by decide) (h.gw_ (a := 1) (k := 1) rfl (by decide) (by decide)).1 hs)))
theorem kc_64 (ty : kTY σ) (h : JC B σ ws nmm ks 64) : kjY kPP (kQQ Y) (d + 10) 203 0 (mjL0 2 [.ref 71, .ref (1000000 + 64)]) [] σ (cmP B σ ws nmm ks 64 (rnC (σ.1 59 17) (σ.2.1 59 16) ks 64 ws)) :=
  kr_64 (d := d + 1) ty cmP.n (cm_n (i := 73) ty h rfl (by decide) (fun _ => rfl) (kx_combine (d := d + 2) (how := 2) ty h.1 h.2.1 h.hB (by decide) h.hj (h.gw_ (a := 1) (k := 1) rfl (by decide) (by decide)).1 h.s3 (fun hs => cb_l h (by decide) (h.gw_ (a := 1) (k := 1) rfl (by decide) (by decide)).1 hs)))
theorem cs_l (h : JC B σ ws nmm ks j) (hj : 74 ≤ rid j ∧ rid j ≤ 76) (hn : ¬ fuB (σ.1 59 17) ks j) {how : Nat} (hh : how < 3) (hf : 3 ≤ ws.length) (hs : ∀ i v, 2 ≤ i → ws[i]? = some v → ¬ soT (skA ks) v (nI 3) = false) : (adL [] (esA (skA ks) (ws.getD 2 []))).length ≤ 8700 ∧ (how = 1 → (poM how (skA ks) ws 2).length ≤ 8700) ∧ 3 * (clA (skA ks) + (poM how (skA ks) ws 2).length) ≤ 49000 := by
  have k := po_ok h.ia hh hf (so_dr hs)
  have := h.en
  have p := (h.pq hn).2.2 hj
  exact ⟨by omega, (fun _ => by omega), by omega⟩
/-- what no sort hinders -/
abbrev rfS (rp : Int32) (ks : List KC) (j : Nat) (ws : List (List Int32)) : Prop := fuB rp ks j ∨ ∃ i v, 2 ≤ i ∧ ws[i]? = some v ∧ soT (skA ks) v (nI 3) = false
theorem cs_e {i how : Nat} (hh : how < 3) (hi : rid j = i) (h2 : ¬ i = 2 ∧ (¬ i ∈ tiI) ∧ ¬ i = 19) (h : JC B σ ws nmm ks j) (hl : 3 ≤ ws.length) (hsf : sfB i 0 ws (skA ks) = soL (skA ks) (ws.drop 2)) (hco : coF i ws (skA ks) = rrF (skA ks) (gw ws 1) (rkM how (skA ks) ws 2)) : rnC (σ.1 59 17) (σ.2.1 59 16) ks j ws = nW (rid j) ws (@ite _ (rfS (σ.1 59 17) ks j ws) (Classical.propDecidable _) none (rrF (skA ks) (gw ws 1) (poM how (skA ks) ws 2))) := by
  unfold rnC
  rw [hi]
  by_cases c : fuB (σ.1 59 17) ks j
  · rw [if_pos (Or.inl c), if_pos (show rfS (σ.1 59 17) ks j ws from Or.inl c)]; rfl
  · rw [if_neg (fun z => z.elim c (fun y => h2.2.2 y.1)), if_neg (fun z : i = 2 ∧ _ => h2.1 z.1)]
    unfold rnF
    rw [if_neg h2.1, if_neg h2.2.1, hsf]
    by_cases q : soL (skA ks) (ws.drop 2) = true
    · have e : ¬ rfS (σ.1 59 17) ks j ws := by
        rintro (z | ⟨i, v, z1, z2, z3⟩)
        · exact c z
        · have m : v ∈ ws.drop 2 := List.mem_iff_getElem?.mpr ⟨i - 2, by rw [List.getElem?_drop, show 2 + (i - 2) = i by omega]; exact z2⟩
          have := so_al2 q v m
          rw [show soT (skA ks) v 3 = false from z3] at this; cases this
      rw [if_pos q, if_neg e, hco, (po_ok h.ia hh hl q).1]
    · have e : rfS (σ.1 59 17) ks j ws := by
        refine Classical.byContradiction (fun z => q (so_dr (fun i v z1 z2 z3 => z (Or.inr ⟨i, v, z1, z2, z3⟩))))
      rw [if_neg q, if_pos e]; rfl
theorem kc_72 (ty : kTY σ) (h : JC B σ ws nmm ks 72) : kjY kPP (kQQ Y) (d + 10) 203 0 (mjL0 2 [.ref 71, .ref (1000000 + 72)]) [] σ (cmP B σ ws nmm ks 72 (rnC (σ.1 59 17) (σ.2.1 59 16) ks 72 ws)) := by
  have l := (h.gw_ (a := 2) (k := 2) rfl (by decide) (by decide)).1
  rw [cs_e (i := 74) (how := 0) (by decide) rfl (by decide) h l rfl rfl]
  exact kr_72 (d := d + 1) ty cmP.n (kjY_mono ty (fun r u _ _ q => cd_cm h.hj h.2.2.2.2.1.1 h.n1.1 q) (kx_combStore2 (d := d + 2) (how := 0) ty h.1 h.2.1 h.hB (by decide) h.hj (h.gw_ (a := 2) (k := 1) rfl (by decide) (by decide)).2 l h.s3 h.k1 (fun hn hs => cs_l h (by decide) hn (by decide) l hs) (fun z => if_pos z) (fun z => if_neg z)))
theorem kc_82 (ty : kTY σ) (h : JC B σ ws nmm ks 82) : kjY kPP (kQQ Y) (d + 10) 203 0 (mjL0 2 [.ref 71, .ref (1000000 + 82)]) [] σ (cmP B σ ws nmm ks 82 (rnC (σ.1 59 17) (σ.2.1 59 16) ks 82 ws)) := by
  have l := (h.gw_ (a := 2) (k := 2) rfl (by decide) (by decide)).1
  rw [cs_e (i := 75) (how := 1) (by decide) rfl (by decide) h l rfl rfl]
  exact kr_82 (d := d + 1) ty cmP.n (kjY_mono ty (fun r u _ _ q => cd_cm h.hj h.2.2.2.2.1.1 h.n1.1 q) (kx_combStore2 (d := d + 2) (how := 1) ty h.1 h.2.1 h.hB (by decide) h.hj (h.gw_ (a := 2) (k := 1) rfl (by decide) (by decide)).2 l h.s3 h.k1 (fun hn hs => cs_l h (by decide) hn (by decide) l hs) (fun z => if_pos z) (fun z => if_neg z)))
theorem kc_65 (ty : kTY σ) (h : JC B σ ws nmm ks 65) : kjY kPP (kQQ Y) (d + 10) 203 0 (mjL0 2 [.ref 71, .ref (1000000 + 65)]) [] σ (cmP B σ ws nmm ks 65 (rnC (σ.1 59 17) (σ.2.1 59 16) ks 65 ws)) := by
  have l := (h.gw_ (a := 2) (k := 2) rfl (by decide) (by decide)).1
  rw [cs_e (i := 76) (how := 2) (by decide) rfl (by decide) h l rfl rfl]
  exact kr_65 (d := d + 1) ty cmP.n (kjY_mono ty (fun r u _ _ q => cd_cm h.hj h.2.2.2.2.1.1 h.n1.1 q) (kx_combStore2 (d := d + 2) (how := 2) ty h.1 h.2.1 h.hB (by decide) h.hj (h.gw_ (a := 2) (k := 1) rfl (by decide) (by decide)).2 l h.s3 h.k1 (fun hn hs => cs_l h (by decide) hn (by decide) l hs) (fun z => if_pos z) (fun z => if_neg z)))
end KJREST
