/-! Commands and their functions: texts and their times. -/
set_option maxRecDepth 20000
section KJSET
variable {Y : Nat → MethodName × ByteArray} {d : Nat} {σ u : kS} {B ws nmm : List (List Int32)} {ks : List KC} {j : Nat}
theorem rd_n {i : Nat} (h : JC B σ ws nmm ks j) (hi : rid j = i) (h2 : ¬ i = 2 ∧ ¬ i ∈ tiI) (hco : ∀ A, coF i ws A = none) (h15 : ¬ j = 15) {r : Option Value} (q : rdP σ B σ ws nmm ks (gw ws 1) j r u) : cmP B σ ws nmm ks j (rnC (σ.1 59 17) (σ.2.1 59 16) ks j ws) r u := by
  have e : rnC (σ.1 59 17) (σ.2.1 59 16) ks j ws = none := by
    unfold rnC
    rw [hi]
    by_cases c : fuB (σ.1 59 17) ks j ∨ (i = 19 ∧ sbC (gw ws 2) (gw ws 3) = none)
    · rw [if_pos c]
    · rw [if_neg c, if_neg (fun z : i = 2 ∧ _ => h2.1 z.1)]
      unfold rnF
      rw [if_neg h2.1, if_neg h2.2, hco]
      by_cases q : sfB i 0 ws (skA ks) = true
      · rw [if_pos q]; rfl
      · rw [if_neg q]
  obtain ⟨hr, nm', ks', p1, w1, r1, s1, q⟩ := q
  rw [e]
  rcases q with ⟨q1, q2, -⟩ | ⟨q1, -⟩
  · exact ⟨hr, nm', ks', p1, w1, r1, fun p hp => s1 p ((by decide : ∀ p ∈ scQ, p ∈ scS) p hp), q1, q2⟩
  · exact absurd q1 h15
theorem kc_13 (ty : kTY σ) (h : JC B σ ws nmm ks 13) : kjY kPP (kQQ Y) (d + 10) 162 0 (mjL0 2 [.ref 67, .ref (1000000 + 13)]) [] σ (cmP B σ ws nmm ks 13 (rnC (σ.1 59 17) (σ.2.1 59 16) ks 13 ws)) :=
  kr_13 (d := d + 1) ty cmP.n (kjY_mono ty (fun _ _ _ _ q => rd_n (i := 1) h rfl (by decide) (fun _ => rfl) (by decide) q) (kx_read (d := d + 2) ty h.1 h.2.1 h.hB h.hj (h.gw_ (a := 1) (k := 1) rfl (by decide) (by decide)).2))
theorem kc_79 (ty : kTY σ) (h : JC B σ ws nmm ks 79) : kjY kPP (kQQ Y) (d + 10) 162 0 (mjL0 2 [.ref 67, .ref (1000000 + 79)]) [] σ (cmP B σ ws nmm ks 79 (rnC (σ.1 59 17) (σ.2.1 59 16) ks 79 ws)) :=
  kr_79 (d := d + 1) ty cmP.n (kjY_mono ty (fun _ _ _ _ q => rd_n (i := 12) h rfl (by decide) (fun _ => rfl) (by decide) q) (kx_read (d := d + 2) ty h.1 h.2.1 h.hB h.hj (h.gw_ (a := 1) (k := 1) rfl (by decide) (by decide)).2))
/-- GETDEL -/
theorem rd_15 (h : JC B σ ws nmm ks 15) (hv : ws[1]? = some (gw ws 1)) {r : Option Value} (q : rdP σ B σ ws nmm ks (gw ws 1) 15 r u) : cmP B σ ws nmm ks 15 (rnC (σ.1 59 17) (σ.2.1 59 16) ks 15 ws) r u := by
  have hs : sfB 3 0 ws (skA ks) = soT (skA ks) (gw ws 1) (nI 0) := sfG rfl hv
  obtain ⟨hr, nm', ks', p1, w1, r1, s1, q⟩ := q
  have s2 : SCl scQ σ u := fun p hp => s1 p ((by decide : ∀ p ∈ scQ, p ∈ scS) p hp)
  have E : ¬ fuB (σ.1 59 17) ks 15 → rnC (σ.1 59 17) (σ.2.1 59 16) ks 15 ws = if sfB 3 0 ws (skA ks) = true then (if kyI (skA ks) (gw ws 1) = none then none else some (delA (skA ks) (gw ws 1), 22, [gw ws 1])) else none := fun z => rn_t2 (i := 3) rfl (by decide) z _
  rcases q with ⟨q1, q2, q3⟩ | ⟨-, q2, q3, q4, p, q5, q6⟩
  · have e : rnC (σ.1 59 17) (σ.2.1 59 16) ks 15 ws = none := by
      by_cases c : fuB (σ.1 59 17) ks 15
      · exact rn_fu c _
      · rw [E c]
        rcases q3 with z | z | z
        · exact absurd rfl z
        · have z := z.resolve_left c
          rw [hs, z]; rfl
        · rw [if_pos z]; split <;> rfl
    rw [e]; exact ⟨hr, nm', ks', p1, w1, r1, s2, q1, q2⟩
  · have c : ¬ fuB (σ.1 59 17) ks 15 := fun z => q2 (Or.inl z)
    have c2 : sfB 3 0 ws (skA ks) = true := by
      rw [hs]
      cases z : soT (skA ks) (gw ws 1) (nI 0) with
      | true => rfl
      | false => exact absurd (Or.inr z) q2
    have e : delA (skA ks) (gw ws 1) = rmA (skA ks) p := by unfold delA; rw [q5]
    rw [E c, if_pos c2, if_neg (by rw [q5]; exact fun z => by cases z), e]
    exact ⟨hr, nm', ks', p1, w1, r1, s2, q6, nt_del (r := none) h hv s2 q3 q4 _⟩
theorem kc_15 (ty : kTY σ) (h : JC B σ ws nmm ks 15) : kjY kPP (kQQ Y) (d + 10) 162 0 (mjL0 2 [.ref 67, .ref (1000000 + 15)]) [] σ (cmP B σ ws nmm ks 15 (rnC (σ.1 59 17) (σ.2.1 59 16) ks 15 ws)) :=
  kr_15 (d := d + 1) ty cmP.n (kjY_mono ty (fun _ _ _ _ q => rd_15 h (h.gw_ (a := 1) (k := 1) rfl (by decide) (by decide)).2 q) (kx_read (d := d + 2) ty h.1 h.2.1 h.hB h.hj (h.gw_ (a := 1) (k := 1) rfl (by decide) (by decide)).2))
theorem PUR_0 (A : List AK) (v : List Int32) (t0 : Int64) : PUR A v 0 0 t0 NEV := Or.inl ⟨rfl, rfl, rfl⟩
theorem cd_none (h : JC B σ ws nmm ks j) {r : Option Value} (q : cdP σ B σ ws nmm ks none r u) : cmP B σ ws nmm ks j none r u := cd_cm h.hj h.2.2.2.2.1.1 h.n1.1 q
/-- GETSET -/
theorem kc_17 (ty : kTY σ) (h : JC B σ ws nmm ks 17) : kjY kPP (kQQ Y) (d + 10) 162 0 (mjL0 2 [.ref 67, .ref (1000000 + 17)]) [] σ (cmP B σ ws nmm ks 17 (rnC (σ.1 59 17) (σ.2.1 59 16) ks 17 ws)) := by
  have g1 := (h.gw_ (a := 2) (k := 1) rfl (by decide) (by decide)).2
  have g2 := (h.gw_ (a := 2) (k := 2) rfl (by decide) (by decide)).2
  have hs : sfB 4 0 ws (skA ks) = soT (skA ks) (gw ws 1) (nI 0) := sfG rfl g1
  refine kr_17 (d := d + 1) ty cmP.n (kjY_mono ty (fun r u _ _ q => ?_) (kx_getSet (d := d + 2) ty h.1 h.2.1 h.hB h.hj g1 g2 (h.wl g2) h.k1 h.xt))
  rcases q with ⟨z, q⟩ | ⟨z, q⟩
  · have e : rnC (σ.1 59 17) (σ.2.1 59 16) ks 17 ws = none := by
      by_cases c : fuB (σ.1 59 17) ks 17
      · exact rn_fu c _
      · rw [rn_t2 (i := 4) rfl (by decide) c, hs, z.resolve_left c]; rfl
    rw [e]; exact cd_none h q
  · have c : ¬ fuB (σ.1 59 17) ks 17 := fun y => z (Or.inl y)
    have c2 : sfB 4 0 ws (skA ks) = true := by
      rw [hs]
      cases y : soT (skA ks) (gw ws 1) (nI 0) with
      | true => rfl
      | false => exact absurd (Or.inr y) z
    rw [rn_t2 (i := 4) rfl (by decide) c, if_pos c2]
    exact pu_cm h g1 g2 (PUR_0 _ _ _) q (fun y => absurd y (by decide))
/-- SETNX -/
theorem kc_69 (ty : kTY σ) (h : JC B σ ws nmm ks 69) : kjY kPP (kQQ Y) (d + 10) 162 0 (mjL0 2 [.ref 67, .ref (1000000 + 69)]) [] σ (cmP B σ ws nmm ks 69 (rnC (σ.1 59 17) (σ.2.1 59 16) ks 69 ws)) := by
  have g1 := (h.gw_ (a := 2) (k := 1) rfl (by decide) (by decide)).2
  have g2 := (h.gw_ (a := 2) (k := 2) rfl (by decide) (by decide)).2
  refine kr_69 (d := d + 1) ty cmP.n (kjY_mono ty (fun r u _ _ q => ?_) (kx_setNew (d := d + 2) ty h.1 h.2.1 h.hB h.hj g1 g2 (h.wl g2) h.k1 h.xt))
  have E : ¬ fuB (σ.1 59 17) ks 69 → rnC (σ.1 59 17) (σ.2.1 59 16) ks 69 ws = seF (kyI (skA ks) (gw ws 1)).isNone 0 0 0 (σ.2.1 59 16) (decide (¬ σ.1 59 17 = 0)) (skA ks) (gw ws 1) (gw ws 2) := fun c => (rn_t2 (i := 5) rfl (by decide) c _).trans (if_pos rfl)
  rcases q with ⟨z, q⟩ | ⟨z, q⟩
  · have e : rnC (σ.1 59 17) (σ.2.1 59 16) ks 69 ws = none := by
      by_cases c : fuB (σ.1 59 17) ks 69
      · exact rn_fu c _
      · have z := z.resolve_left c
        rw [E c]
        cases y : kyI (skA ks) (gw ws 1) with
        | none => exact absurd y z
        | some p => rfl
    rw [e]; exact cd_none h q
  · have y : kyI (skA ks) (gw ws 1) = none := by
      by_cases y : kyI (skA ks) (gw ws 1) = none
      · exact y
      · exact absurd (Or.inr y) z
    rw [E (fun y => z (Or.inl y)), y]
    exact pu_cm h g1 g2 (PUR_0 _ _ _) q (fun y => absurd y (by decide))
/-- SETEX, PSETEX -/
theorem se_t (h : JC B σ ws nmm ks j) {i m : Nat} (hi : rid j = i) (h2 : ¬ i = 2 ∧ i ∈ tiI ∧ ¬ i = 19) (hsf : sfB i 0 ws (skA ks) = true) (ht : ∀ now rp, tiX i ws now rp (skA ks) = (tiR true m now (gw ws 2)).bind (fun t => seF true 0 1 t now rp (skA ks) (gw ws 1) (gw ws 3))) (g1 : ws[1]? = some (gw ws 1)) (g3 : ws[3]? = some (gw ws 3)) {r : Option Value} (q : ((tiR true m (σ.2.1 59 16) (gw ws 2) = none ∨ fuB (σ.1 59 17) ks j) ∧ cdN σ B σ ws nmm ks r u) ∨ ∃ t, tiR true m (σ.2.1 59 16) (gw ws 2) = some t ∧ (¬ fuB (σ.1 59 17) ks j) ∧ puP σ B σ ws nmm ks (gw ws 1) (gw ws 3) (nI 3) 0 t r u) : cmP B σ ws nmm ks j (rnC (σ.1 59 17) (σ.2.1 59 16) ks j ws) r u := by
  have E : ¬ fuB (σ.1 59 17) ks j → rnC (σ.1 59 17) (σ.2.1 59 16) ks j ws = (tiR true m (σ.2.1 59 16) (gw ws 2)).bind (fun t => seF true 0 1 t (σ.2.1 59 16) (decide (¬ σ.1 59 17 = 0)) (skA ks) (gw ws 1) (gw ws 3)) := fun c => by rw [rn_t2 hi h2 c, if_pos hsf, ht]
  rcases q with ⟨z, q⟩ | ⟨t, z, c, q⟩
  · have e : rnC (σ.1 59 17) (σ.2.1 59 16) ks j ws = none := by
      by_cases c : fuB (σ.1 59 17) ks j
      · exact rn_fu c _
      · rw [E c, z.resolve_right c]; rfl
    rw [e]; exact cdN_cm h q
  · rw [E c, z]
    exact pu_cm h g1 g3 (Or.inr (Or.inl ⟨rfl, rfl, rfl, (tiR_ok z).2⟩)) q (fun y => absurd y (by decide))
theorem kc_68 (ty : kTY σ) (h : JC B σ ws nmm ks 68) : kjY kPP (kQQ Y) (d + 10) 162 0 (mjL0 2 [.ref 67, .ref (1000000 + 68)]) [] σ (cmP B σ ws nmm ks 68 (rnC (σ.1 59 17) (σ.2.1 59 16) ks 68 ws)) := by
  have g1 := (h.gw_ (a := 3) (k := 1) rfl (by decide) (by decide)).2
  have g2 := (h.gw_ (a := 3) (k := 2) rfl (by decide) (by decide)).2
  have g3 := (h.gw_ (a := 3) (k := 3) rfl (by decide) (by decide)).2
  exact kr_68 (d := d + 1) ty cmP.n (kjY_mono ty (fun r u _ _ q => se_t (i := 6) (m := 0) h rfl (by decide) rfl (fun _ _ => rfl) g1 g3 q) (kx_setTimed (d := d + 1) ty h.1 h.2.1 h.hB h.hj g1 g2 g3 (h.wl g3) h.k1 h.xt true _ rfl))
theorem kc_52 (ty : kTY σ) (h : JC B σ ws nmm ks 52) : kjY kPP (kQQ Y) (d + 10) 162 0 (mjL0 2 [.ref 67, .ref (1000000 + 52)]) [] σ (cmP B σ ws nmm ks 52 (rnC (σ.1 59 17) (σ.2.1 59 16) ks 52 ws)) := by
  have g1 := (h.gw_ (a := 3) (k := 1) rfl (by decide) (by decide)).2
  have g2 := (h.gw_ (a := 3) (k := 2) rfl (by decide) (by decide)).2
  have g3 := (h.gw_ (a := 3) (k := 3) rfl (by decide) (by decide)).2
  exact kr_52 (d := d + 1) ty cmP.n (kjY_mono ty (fun r u _ _ q => se_t (i := 7) (m := 1) h rfl (by decide) rfl (fun _ _ => rfl) g1 g3 q) (kx_setTimed (d := d + 1) ty h.1 h.2.1 h.hB h.hj g1 g2 g3 (h.wl g3) h.k1 h.xt false _ rfl))
/-- the flags of SET are 0 or 1 -/
abbrev F01 (f : F4) : Prop := (f.2.2.1 = 0 ∨ f.2.2.1 = 1) ∧ (f.2.2.2 = 0 ∨ f.2.2.2 = 1)
theorem osF_01 : ∀ (k : Nat) (r : List (List Int32)) (f : F4) (o : Option (Nat × List Int32)) (q : F4 × Option (Nat × List Int32)), r.length ≤ k → F01 f → osF r f o = some q → F01 q.1 := by
  have ot : ∀ (w : List Int32) (f f' : F4) (o : Option (Nat × List Int32)), F01 f → osT w f o = some f' → F01 f' := by
    intro w f f' o h e
    unfold osT at e
    split at e
    · cases e; exact h
    · split at e
      · cases e; exact h
      · split at e
        · cases e; exact ⟨Or.inr rfl, h.2⟩
        · split at e
          · cases e; exact ⟨h.1, Or.inr rfl⟩
          · cases e
  intro k
  induction k with
  | zero =>
    intro r f o q hr h e
    cases r with
    | nil => cases e; exact h
    | cons w r => simp at hr
  | succ k ih =>
    intro r f o q hr h e
    cases r with
    | nil => cases e; exact h
    | cons w r =>
      cases r with
      | nil =>
        have e : (osT w f o).map (fun f => (f, o)) = some q := e
        cases z : osT w f o with
        | none => rw [z] at e; cases e
        | some f' => rw [z] at e; cases e; exact ot w f f' o h z
      | cons t r =>
        have e : (match osT w f o with | some f' => osF (t :: r) f' o | none => (match osM w with | some m => if o = none ∧ f.2.2.2 = 0 then osF r f (some (m, t)) else none | none => none)) = some q := e
        simp only [List.length_cons] at hr
        cases z : osT w f o with
        | some f' =>
          rw [z] at e
          exact ih (t :: r) f' o q (by simp only [List.length_cons]; omega) (ot w f f' o h z) e
        | none =>
          rw [z] at e
          have e : (match osM w with | some m => if o = none ∧ f.2.2.2 = 0 then osF r f (some (m, t)) else none | none => none) = some q := e
          cases y : osM w with
          | none => rw [y] at e; cases e
          | some m =>
            rw [y] at e
            have e : (if o = none ∧ f.2.2.2 = 0 then osF r f (some (m, t)) else none) = some q := e
            by_cases c : o = none ∧ f.2.2.2 = 0
            · rw [if_pos c] at e; exact ih r f (some (m, t)) q (by omega) h e
            · rw [if_neg c] at e; cases e
theorem osR_01 {ws : Req} {now : Int64} {q : F4 × Option Int64} (h : osR ws now = some q) : F01 q.1 := by
  unfold osR at h
  obtain ⟨p, hp, h⟩ := bind_some h
  have x := osF_01 (ws.drop 3).length (ws.drop 3) (0, 0, 0, 0) none p (Nat.le_refl _) ⟨Or.inl rfl, Or.inl rfl⟩ hp
  cases e : p.2 with
  | none => rw [e] at h; have h : some (p.1, none) = some q := h; cases h; exact x
  | some mt =>
    rw [e] at h
    have h : (match intF mt.2 with | none => none | some n => if n < 1 ∨ tmB n now mt.1 = false then none else some (p.1, some (tmV n now mt.1))) = some q := h
    cases f : intF mt.2 with
    | none => rw [f] at h; cases h
    | some n =>
      rw [f] at h
      have h : (if n < 1 ∨ tmB n now mt.1 = false then none else some (p.1, some (tmV n now mt.1))) = some q := h
      by_cases c : n < 1 ∨ tmB n now mt.1 = false
      · rw [if_pos c] at h; cases h
      · rw [if_neg c] at h; cases h; exact x
/-- SET -/
theorem sfB_2 {f : Int32} (hv : ws[1]? = some (gw ws 1)) (A : List AK) : sfB 2 f ws A = if f = 0 then true else soT A (gw ws 1) (nI 0) := by
  by_cases c : f = 0
  · rw [if_pos c, c]; rfl
  · rw [if_neg c]
    unfold sfB
    rw [if_pos (Or.inr (Or.inr (Or.inr (Or.inr ⟨rfl, c⟩))))]; exact soW_at hv
theorem st_cm (h : JC B σ ws nmm ks 66) (g1 : ws[1]? = some (gw ws 1)) (g2 : ws[2]? = some (gw ws 2)) {r : Option Value} (q : setP σ B σ ws nmm ks (gw ws 1) (gw ws 2) 66 r u) : cmP B σ ws nmm ks 66 (rnC (σ.1 59 17) (σ.2.1 59 16) ks 66 ws) r u := by
  have E : ¬ fuB (σ.1 59 17) ks 66 → ¬ KPZ (σ.1 59 17) (σ.2.1 59 16) (skA ks) ws → rnC (σ.1 59 17) (σ.2.1 59 16) ks 66 ws = (osR ws (σ.2.1 59 16)).bind (fun q => if sfB 2 q.1.2.2.1 ws (skA ks) = true then seF (goB q.1.1 q.1.2.1 (skA ks) (gw ws 1)) q.1.2.2.2 (if q.2.isSome then 1 else 0) (q.2.getD 0) (σ.2.1 59 16) (decide (¬ σ.1 59 17 = 0)) (skA ks) (gw ws 1) (gw ws 2) else none) := fun c k => by
    unfold rnC
    rw [if_neg (fun z => z.elim c (fun y => absurd y.1 (by decide))), if_neg (fun z => k z.2)]
    unfold rnF
    rw [if_pos (show rid 66 = 2 from rfl)]
  rcases q with ⟨z, q⟩ | ⟨f, ot, z, q⟩
  · have e : rnC (σ.1 59 17) (σ.2.1 59 16) ks 66 ws = none := by
      by_cases c : fuB (σ.1 59 17) ks 66
      · exact rn_fu c _
      · rw [E c (fun ⟨_, f, ot, p, a, k, _⟩ => by rw [z] at k; cases k), z]; rfl
    rw [e]; exact cdN_cm h q
  · have h01 : F01 f := osR_01 z
    have hx : f.2.2.2 = 0 ∨ ot = none := osR_x z
    have hsf := sfB_2 (f := f.2.2.1) g1 (skA ks)
    rcases q with ⟨zz, q⟩ | ⟨zz, q⟩
    · have e : rnC (σ.1 59 17) (σ.2.1 59 16) ks 66 ws = none := by
        by_cases c : fuB (σ.1 59 17) ks 66
        · exact rn_fu c _
        · rcases zz with ⟨y1, y2⟩ | ⟨-, y2⟩
          · have y2 := y2.resolve_left c
            rw [y1, if_neg (by decide), y2] at hsf
            rw [E c ?_, z]
            · show (if sfB 2 f.2.2.1 ws (skA ks) = true then _ else none) = none
              rw [y1, hsf]; rfl
            · rintro ⟨_, f', ot', p, a, k, _, _, k4, _⟩
              rw [z] at k; cases k
              rw [y1, hsf] at k4; cases k4
          · exact absurd y2 c
      rw [e]; exact cdN_cm h q
    · have c : ¬ fuB (σ.1 59 17) ks 66 := fun y => zz (h01.1.elim (fun k => Or.inr ⟨k, y⟩) (fun k => Or.inl ⟨k, Or.inl y⟩))
      have hs : sfB 2 f.2.2.1 ws (skA ks) = true := by
        rw [hsf]
        rcases h01.1 with k | k
        · rw [if_pos k]
        · rw [if_neg (by rw [k]; decide)]
          cases y : soT (skA ks) (gw ws 1) (nI 0) with
          | true => rfl
          | false => exact absurd (Or.inl ⟨k, Or.inr y⟩) zz
      have E2 : ¬ KPZ (σ.1 59 17) (σ.2.1 59 16) (skA ks) ws → rnC (σ.1 59 17) (σ.2.1 59 16) ks 66 ws = seF (goB f.1 f.2.1 (skA ks) (gw ws 1)) f.2.2.2 (if ot.isSome then 1 else 0) (ot.getD 0) (σ.2.1 59 16) (decide (¬ σ.1 59 17 = 0)) (skA ks) (gw ws 1) (gw ws 2) := fun k => by
        rw [E c k, z]
        show (if sfB 2 f.2.2.1 ws (skA ks) = true then _ else none) = _
        rw [if_pos hs]
      rcases q with ⟨q1, q⟩ | ⟨q1, tt, q, q2⟩
      · rw [E2 ?_, q1]
        · exact cdN_cm h q
        · rintro ⟨_, f', ot', p, a, k, _, k3, _⟩
          rw [z] at k; cases k
          rw [q1] at k3; cases k3
      · by_cases k : KPZ (σ.1 59 17) (σ.2.1 59 16) (skA ks) ws
        · obtain ⟨k0, f', ot', p, a, k1, k2, k3, k4, k5, k6, k7⟩ := k
          have k1' := k1
          rw [z] at k1'; cases k1'
          have e : rnC (σ.1 59 17) (σ.2.1 59 16) ks 66 ws = some (rmA (skA ks) p, 22, [gw ws 1]) := by
            unfold rnC
            rw [if_neg (fun z => z.elim c (fun y => absurd y.1 (by decide))), if_pos ⟨rfl, k0, f, ot, p, a, k1, k2, k3, k4, k5, k6, k7⟩, k5]; rfl
          rw [e]
          have hd : tt = endE a := by
            rcases q2 with ⟨y, -⟩ | ⟨P, y, Q, y1, y2, y3⟩
            · rw [k5] at y; cases y
            · rw [k5] at y2; cases y2
              rw [y1, skA_at] at k6; cases k6
              rw [y3, if_pos k2]
          obtain ⟨hr, nm', ks', p1, w1, r1, s1, q⟩ := q
          rcases q with ⟨y1, y2, y3, y4⟩ | ⟨y1, -⟩
          · rcases y4 with ⟨y4, -⟩ | ⟨p', y4, y5, y6⟩
            · rw [k5] at y4; cases y4
            · rw [k5] at y4; cases y4
              exact ⟨hr, nm', ks', p1, w1, r1, s1, y5, nt_del (r := none) h g1 s1 y6 y3 _⟩
          · exact absurd ⟨by rw [hd]; exact k7, k0⟩ y1
        · rw [E2 k, q1]
          have hn := h.nv
          rcases h01.2 with kp | kp
          · have et : tt = ot.getD NEV := by
              rcases q2 with ⟨-, y⟩ | ⟨P, y, Q, y1, y2, y3⟩
              · exact y
              · rw [y3, if_neg (by rw [kp]; decide)]
            rw [kp] at q ⊢
            refine pu_cm h g1 g2 ?_ q (fun y => absurd y (by decide))
            cases ot with
            | none => exact Or.inl ⟨rfl, rfl, et⟩
            | some t => exact Or.inr (Or.inl ⟨rfl, rfl, et, by rw [et]; exact (osR_ok z t rfl).2⟩)
          · have eo : ot = none := hx.resolve_left (by rw [kp]; decide)
            subst eo
            have hP : PUR (skA ks) (gw ws 1) 1 0 0 tt := by
              refine Or.inr (Or.inr ⟨rfl, rfl, ?_⟩)
              rcases q2 with ⟨y1, y2⟩ | ⟨P, y, Q, y1, y2, y3⟩
              · exact Or.inl ⟨y1, y2⟩
              · refine Or.inr ⟨P.length, y.2.2.2.2.2, y2, by rw [y1]; exact skA_at P Q y, by rw [y3, if_pos kp], ?_⟩
                exact (h.ok (x := y) (by rw [y1]; exact List.mem_append_right _ (List.mem_cons_self ..))).2.2.2.2.1
            have hz : ¬ (tt ≤ σ.2.1 59 16 ∧ σ.1 59 17 = 0) := by
              rintro ⟨y4, y5⟩
              rcases q2 with ⟨y1, y2⟩ | ⟨P, y, Q, y1, y2, y3⟩
              · rw [y2] at y4; exact absurd y4 (Int64.not_le.mpr hn)
              · exact k ⟨y5, f, none, P.length, y.2.2.2.2.2, z, kp, q1, hs, y2, by rw [y1]; exact skA_at P Q y, by rw [y3, if_pos kp] at y4; exact y4⟩
            rw [kp] at q ⊢
            exact pu_cm h g1 g2 hP q (fun _ => hz)
theorem kc_66 (ty : kTY σ) (h : JC B σ ws nmm ks 66) : kjY kPP (kQQ Y) (d + 10) 162 0 (mjL0 2 [.ref 67, .ref (1000000 + 66)]) [] σ (cmP B σ ws nmm ks 66 (rnC (σ.1 59 17) (σ.2.1 59 16) ks 66 ws)) := by
  have g1 := (h.gw_ (a := 2) (k := 1) rfl (by decide) (by decide)).2
  have g2 := (h.gw_ (a := 2) (k := 2) rfl (by decide) (by decide)).2
  exact kr_66 (d := d + 1) ty cmP.n (kjY_mono ty (fun r u _ _ q => st_cm h g1 g2 q) (kx_set (d := d) ty h.1 h.2.1 h.hB h.hj g1 g2 (h.wl g2) h.k1 h.xt))
end KJSET
