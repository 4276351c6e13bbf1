/-! HDEL, SREM, ZREM; SADD. -/
section REM
variable {Y : Nat → MethodName × ByteArray} {d : Nat}
/-- without the element at a place -/
def rmE (i : Nat) : List AE → List AE
  | [] => []
  | z :: r => match i with
    | 0 => r
    | i + 1 => z :: rmE i r
theorem rmE_at (E1 : List AE) (z : AE) (E2 : List AE) : rmE E1.length (E1 ++ z :: E2) = E1 ++ E2 := by
  induction E1 with
  | nil => rfl
  | cons y r ih => show y :: rmE r.length (r ++ z :: E2) = _; rw [ih]; rfl
-- ranked: the element of this word in a set with scores
set_option maxRecDepth 100000 in
theorem c_rk_loop (K : mjK) {σ : mjS} {ws : List (List Int32)} {P Q : List KR} {y : KR} {l : List Int32} (h : Wd σ ws (P ++ y :: Q) l) (ty : mjTY σ) {i : Nat} {w : List Int32} (hw : ws[i]? = some w) (x1 x2 : Int32) (e2 : x2 = nI i) : ∀ (E2 E1 : List ER) (x3 : Int32), y.2.2.2.2.2.2 = E1 ++ E2 → x3 = nx (ids E2) → (∀ r, (match fdE w (E2.map (fun z => z.2)) with | none => r = -1 | some i => ∃ F1 t F2, E2 = F1 ++ t :: F2 ∧ F1.length = i ∧ r = nI t.1) → K (some (.int r)) σ) →
    mjY mjPP (mjQQ Y) (d + 2) 131 9 [some (.ref 0), some (.int x1), some (.int x2), some (.int x3)] [] σ K := by
  intro E2
  induction E2 with
  | nil =>
    intro E1 x3 hE e3 hK
    refine mjZ_y rfl rfl 2 _ _ _ _ ty ?_
    refine And.intro (fun q => ?_) (fun q => ?_)
    · refine mjZ_y rfl rfl 2 _ _ _ _ ty ?_
      refine And.intro rfl (And.intro (Or.inl rfl) ?_)
      exact hK x3 e3
    · exact absurd (lt_m1 e3) q
  | cons z E2 ih =>
    intro E1 x3 hE e3 hK
    have e3 : x3 = nI z.1 := e3
    have hm : z ∈ y.2.2.2.2.2.2 := by rw [hE]; exact List.mem_append_right _ List.mem_cons_self
    obtain ⟨hN, -, v3⟩ := W_next h hE e3
    obtain ⟨hs, hh, ho⟩ := h.eid hm
    have hid := ho.1
    refine mjZ_y rfl rfl 2 _ _ _ _ ty ?_
    refine And.intro (fun q => ?_) (fun q => ?_)
    · exact absurd (show x3 < 0 from q) (lt_nI (by omega) e3)
    · refine mjZ_y rfl rfl 4 _ _ _ _ ty ?_
      refine (And.intro (Nat.le_of_ble_eq_true rfl) (And.intro rfl (And.intro (Nat.le_of_ble_eq_true rfl) (And.intro (Nat.le_of_ble_eq_true rfl) (mjY_mono ty (fun q_ u1 ty1 h_ => ?_) (w_isWord h ty hm hw e3 e2))))))
      obtain ⟨rfl, rfl⟩ := h_
      intro _
      have ef : fdE w ((z :: E2).map (fun z => z.2)) = if cmpW z.2.1 w = 0 then some 0 else (fdE w (E2.map (fun z => z.2))).map (fun i => i + 1) := rfl
      rw [ef] at hK
      refine mjZ_y rfl rfl 1 _ _ _ _ ty ?_
      refine And.intro (fun c => ?_) (fun c => ?_)
      · have c := eqI_ne.mp c
        rw [if_pos c] at hK
        refine mjZ_y rfl rfl 2 _ _ _ _ ty ?_
        refine And.intro rfl (And.intro (Or.inl rfl) ?_)
        exact hK x3 ⟨[], z, E2, rfl, rfl, e3⟩
      · have c : ¬ cmpW z.2.1 w = 0 := fun t => c (eqI_ne.mpr t)
        rw [if_neg c] at hK
        refine mjZ_y rfl rfl 6 _ _ _ _ ty ?_
        refine (And.intro rfl (And.intro rfl (And.intro v3 (And.intro (Nat.le_of_ble_eq_true rfl) ?_))))
        refine ih (E1 ++ [z]) _ (by rw [hE, List.append_assoc]; rfl) hN (fun r hx => hK r ?_)
        cases hf : fdE w (E2.map (fun z => z.2)) with
        | none => rw [hf] at hx; exact hx
        | some i =>
          rw [hf] at hx
          obtain ⟨F1, t, F2, a, b, c⟩ := hx
          exact ⟨z :: F1, t, F2, by rw [a]; rfl, by rw [List.length_cons, b], c⟩
set_option maxRecDepth 100000 in
theorem w_ranked {σ : mjS} {ws : List (List Int32)} {P Q : List KR} {y : KR} {l : List Int32} (h : Wd σ ws (P ++ y :: Q) l) (ty : mjTY σ) {i : Nat} {w : List Int32} (hw : ws[i]? = some w) {x1 x2 : Int32} (e1 : x1 = nI y.1) (e2 : x2 = nI i) : mjY mjPP (mjQQ Y) (d + 2) 131 0 (mjL0 4 [.ref 0, .int x1, .int x2]) [] σ (fun q u => u = σ ∧ ∃ r, q = some (.int r) ∧ (match fdE w (y.2.2.2.2.2.2.map (fun z => z.2)) with | none => r = -1 | some i => ∃ F1 t F2, y.2.2.2.2.2.2 = F1 ++ t :: F2 ∧ F1.length = i ∧ r = nI t.1)) := by
  obtain ⟨-, kHd, -, vk⟩ := W_tail h e1
  have hid := h.id
  refine mjZ_y rfl rfl 2 _ _ _ _ ty ?_
  refine And.intro (fun q => ?_) (fun q => ?_)
  · refine mjZ_y rfl rfl 5 _ _ _ _ ty ?_
    refine (And.intro rfl (And.intro rfl (And.intro vk (And.intro (Nat.le_of_ble_eq_true rfl) ?_))))
    exact c_rk_loop _ h ty hw x1 x2 e2 y.2.2.2.2.2.2 [] _ rfl kHd (fun r hr => ⟨rfl, r, rfl, hr⟩)
  · exact absurd (ge_nI (by omega) e1) q
set_option maxRecDepth 100000 in
theorem w_ranked0 {σ : mjS} (ty : mjTY σ) {x1 x2 : Int32} (e1 : x1 = -1) : mjY mjPP (mjQQ Y) (d + 2) 131 0 (mjL0 4 [.ref 0, .int x1, .int x2]) [] σ (fun q u => u = σ ∧ q = some (.int (-1))) := by
  refine mjZ_y rfl rfl 2 _ _ _ _ ty ?_
  refine And.intro (fun q => ?_) (fun q => ?_)
  · exact absurd q (ge_m1 e1)
  · refine mjZ_y rfl rfl 2 _ _ _ _ ty ?_
    refine And.intro rfl (And.intro (Or.inl rfl) ?_)
    exact ⟨rfl, rfl⟩
/-- where the element stands that HDEL, SREM (in order) or ZREM looks for -/
def rvI (i1 : Nat) (v : List Int32) (es : List AE) : Option Nat := if i1 = 79 then fdE v es else if skT v es = true then some (skI v es) else none
def rvE (i1 : Nat) (v : List Int32) (es : List AE) : List AE := match rvI i1 v es with
  | some i => rmE i es
  | none => es
def rvA (i1 : Nat) : List AE → List (List Int32) → List AE
  | es, [] => es
  | es, v :: r => rvA i1 (rvE i1 v es) r
def rvN (i1 : Nat) : List AE → List (List Int32) → Nat
  | _, [] => 0
  | es, v :: r => (match rvI i1 v es with | some _ => 1 | none => 0) + rvN i1 (rvE i1 v es) r
theorem rvN_0 (i1 : Nat) : ∀ (r : List (List Int32)) (es : List AE), rvN i1 es r = 0 → rvA i1 es r = es := by
  intro r
  induction r with
  | nil => intro es _; rfl
  | cons v r ih =>
    intro es h
    have h : (match rvI i1 v es with | some _ => 1 | none => 0) + rvN i1 (rvE i1 v es) r = 0 := h
    show rvA i1 (rvE i1 v es) r = es
    cases c : rvI i1 v es with
    | some i => rw [c] at h; have h : 1 + rvN i1 (rvE i1 v es) r = 0 := h; omega
    | none =>
      have e : rvE i1 v es = es := by unfold rvE; rw [c]
      rw [c, e] at h
      have h : 0 + rvN i1 es r = 0 := h
      rw [e]; exact ih es (by omega)
theorem rvN_le (i1 : Nat) : ∀ (r : List (List Int32)) (es : List AE), rvN i1 es r ≤ r.length := by
  intro r
  induction r with
  | nil => intro es; exact Nat.le_refl _
  | cons v r ih =>
    intro es
    show (match rvI i1 v es with | some _ => 1 | none => 0) + rvN i1 (rvE i1 v es) r ≤ r.length + 1
    have := ih (rvE i1 v es)
    cases rvI i1 v es with
    | some i => show 1 + _ ≤ _; omega
    | none => show 0 + _ ≤ _; omega
set_option maxRecDepth 100000 in
theorem c_rv_loop (K : mjK) (i1 : Nat) (hi : i1 < 128) (x1 : Int32) (e1 : x1 = nI i1) {ws : List (List Int32)} {l : List Int32} {P Q : List KR} (k : Nat) (x2 : Int32) (e2 : x2 = nI k) : ∀ (m a n : Nat) (σ : mjS) (y : KR) (x3 x4 : Int32) (l5 : Option Value), a + m = ws.length → n + m ≤ 2000 → x3 = nI n → x4 = nI a → y.1 = k → mjTY σ → Wd σ ws (P ++ y :: Q) l →
    (∀ u y' x3 x4 l5, mjTY u → Fr (f_found :: kF) kH σ u → y'.1 = k → Wd u ws (P ++ y' :: Q) l → st1 y' = esF (fun es => rvA i1 es (ws.drop a)) (st1 y) → x3 = nI (n + rvN i1 (y.2.2.2.2.2.2.map (fun z => z.2)) (ws.drop a)) → mjY mjPP (mjQQ Y) (d + 3) 122 37 [some (.ref 0), some (.int x1), some (.int x2), some (.int x3), some (.int x4), l5] [] u K) →
    mjY mjPP (mjQQ Y) (d + 3) 122 8 [some (.ref 0), some (.int x1), some (.int x2), some (.int x3), some (.int x4), l5] [] σ K := by
  have nn : ∀ c : Nat, c < 128 → ((¬ x1 = nI c) ↔ ¬ i1 = c) := fun c hc => by rw [e1, nI_eq (by omega) (by omega)]
  intro m
  induction m with
  | zero =>
    intro a n σ y x3 x4 l5 ha hn e3 e4 hy ty h hK
    have h1024 := h.2.1.2.1
    refine mjZ_y rfl rfl 4 _ _ _ _ ty ?_
    refine (And.intro rfl (And.intro (fun q => ?_) (fun q => ?_)))
    · refine hK σ y _ _ _ ty Fr.rf hy h ?_ ?_
      · rw [List.drop_of_length_le (by omega)]; rfl
      · rw [List.drop_of_length_le (by omega)]; exact e3
    · exact absurd (show σ.1 f_words ≤ x4 by rw [h.2.1.1, e4]; exact nI_le (by omega) (by omega)) q
  | succ m ih =>
    intro a n σ y x3 x4 l5 ha hn e3 e4 hy ty h hK
    have h1024 := h.2.1.2.1
    obtain ⟨v, hv, ed⟩ := drop1 ha
    rw [ed] at hK
    have e2y : x2 = nI y.1 := by rw [hy]; exact e2
    have hid := h.id
    have rN : rvN i1 (y.2.2.2.2.2.2.map (fun z => z.2)) (v :: ws.drop (a + 1)) = (match rvI i1 v (y.2.2.2.2.2.2.map (fun z => z.2)) with | some _ => 1 | none => 0) + rvN i1 (rvE i1 v (y.2.2.2.2.2.2.map (fun z => z.2))) (ws.drop (a + 1)) := rfl
    -- from the found element on
    have go : ∀ (x5 : Int32) (u : mjS), mjTY u → Wd u ws (P ++ y :: Q) l → Fr [f_found] [] σ u → (match rvI i1 v (y.2.2.2.2.2.2.map (fun z => z.2)) with | none => x5 = -1 | some i => ∃ F1 t F2, y.2.2.2.2.2.2 = F1 ++ t :: F2 ∧ F1.length = i ∧ x5 = nI t.1) → mjY mjPP (mjQQ Y) (d + 3) 122 27 [some (.ref 0), some (.int x1), some (.int x2), some (.int x3), some (.int x4), some (.int x5)] [] u K := by
      intro x5 u tu hu fu hx
      cases hr : rvI i1 v (y.2.2.2.2.2.2.map (fun z => z.2)) with
      | none =>
        rw [hr] at hx rN
        have hx : x5 = -1 := hx
        have eE : rvE i1 v (y.2.2.2.2.2.2.map (fun z => z.2)) = y.2.2.2.2.2.2.map (fun z => z.2) := by unfold rvE; rw [hr]
        refine mjZ_y rfl rfl 2 _ _ _ _ tu ?_
        refine And.intro (fun q => ?_) (fun q => ?_)
        · exact absurd q (ge_m1 hx)
        · refine mjZ_y rfl rfl 3 _ _ _ _ tu ?_
          refine ih (a + 1) n u y _ _ _ (by omega) (by omega) e3 (by rw [e4]; exact nI_1 a) hy tu hu (fun w y' x3 x4 l5 tw fw hy' hw eu en => hK w y' x3 x4 l5 tw ((fu.up (by decide) (fun _ q => by cases q)).tr fw) hy' hw ?_ ?_)
          · rw [eu]
            show (y.2.1, y.2.2.1, y.2.2.2.1, tmN y.2.2.2.1 y.2.2.2.2.1, y.2.2.2.2.2.1, rvA i1 (y.2.2.2.2.2.2.map (fun z => z.2)) (ws.drop (a + 1))) = (y.2.1, y.2.2.1, y.2.2.2.1, tmN y.2.2.2.1 y.2.2.2.2.1, y.2.2.2.2.2.1, rvA i1 (rvE i1 v (y.2.2.2.2.2.2.map (fun z => z.2))) (ws.drop (a + 1)))
            rw [eE]
          · rw [en, rN, eE]; congr 1; show _ = n + (0 + _); omega
      | some i =>
        rw [hr] at hx rN
        obtain ⟨F1, t, F2, hF, hl, e5⟩ := hx
        have tid := (hu.eid (y := t) (by rw [hF]; exact List.mem_append_right _ List.mem_cons_self)).elim (fun _ k => k.2.1)
        have eE : rvE i1 v (y.2.2.2.2.2.2.map (fun z => z.2)) = (F1 ++ F2).map (fun z => z.2) := by
          unfold rvE; rw [hr]
          show rmE i _ = _
          rw [hF, List.map_append, List.map_cons, List.map_append, ← hl]
          have e := rmE_at (F1.map (fun z => z.2)) t.2 (F2.map (fun z => z.2))
          rw [List.length_map] at e
          exact e
        refine mjZ_y rfl rfl 2 _ _ _ _ tu ?_
        refine And.intro (fun q => ?_) (fun q => ?_)
        · refine mjZ_y rfl rfl 4 _ _ _ _ tu ?_
          refine (And.intro (Nat.le_of_ble_eq_true rfl) (And.intro rfl (And.intro (Nat.le_of_ble_eq_true rfl) (And.intro (Nat.le_of_ble_eq_true rfl) (mjY_mono tu (fun q_ u2 ty2 h_ => ?_) (w_unlink hu tu hF e2y e5))))))
          obtain ⟨rfl, h2, f2⟩ := h_
          intro _
          refine mjZ_y rfl rfl 3 _ _ _ _ ty2 ?_
          have s1 : st1 (withE y (F1 ++ F2)) = esF (rvE i1 v) (st1 y) := st1_with eE.symm
          refine ih (a + 1) (n + 1) u2 (withE y (F1 ++ F2)) _ _ _ (by omega) (by omega) (by rw [e3]; exact nI_1 n) (by rw [e4]; exact nI_1 a) hy ty2 h2 (fun w y' x3 x4 l5 tw fw hy' hw eu en => hK w y' x3 x4 l5 tw (((fu.up (by decide) (fun _ q => by cases q)).tr (f2.up (by decide) (fun _ q => q))).tr fw) hy' hw ?_ ?_)
          · rw [eu, s1]; rfl
          · rw [en, rN, eE]; congr 1; show n + 1 + _ = n + (1 + _)
            show n + 1 + rvN i1 ((F1 ++ F2).map (fun z => z.2)) (ws.drop (a + 1)) = _; omega
        · exact absurd (ge_nI (by omega) e5) q
    refine mjZ_y rfl rfl 4 _ _ _ _ ty ?_
    refine (And.intro rfl (And.intro (fun q => ?_) (fun q => ?_)))
    · exact absurd (show σ.1 f_words ≤ x4 from q) (by rw [h.2.1.1, e4]; exact nI_ge (by omega) (by omega))
    · refine mjZ_y rfl rfl 2 _ _ _ _ ty ?_
      refine And.intro (fun b => ?_) (fun b => ?_)
      · exact absurd (show x2 < 0 from b) (lt_nI (by omega) e2y)
      · refine mjZ_y rfl rfl 3 _ _ _ _ ty ?_
        refine And.intro (fun c => ?_) (fun c => ?_)
        · have c := (nn 79 (by decide)).mp c
          obtain ⟨v4, b4, eb, el, hb, ew⟩ := h.2.1.clamp hv e4
          -- member by its place
          have mem : mjY mjPP (mjQQ Y) (d + 2) 116 0 (mjL0 3 [.ref 0, .int x2, .int x4]) [] σ (fun q u => ∃ r, q = some (.int r) ∧ Fr [f_found] [] σ u ∧ Wd u ws (P ++ y :: Q) l ∧ (match rvI i1 v (y.2.2.2.2.2.2.map (fun z => z.2)) with | none => r = -1 | some i => ∃ F1 t F2, y.2.2.2.2.2.2 = F1 ++ t :: F2 ∧ F1.length = i ∧ r = nI t.1)) := by
            refine mjZ_y rfl rfl 13 _ _ _ _ ty ?_
            refine (And.intro rfl (And.intro rfl (And.intro rfl (And.intro v4 (And.intro rfl (And.intro rfl (And.intro v4 (And.intro (Nat.le_of_ble_eq_true rfl) (And.intro rfl (And.intro (Nat.le_of_ble_eq_true rfl) (And.intro (Nat.le_of_ble_eq_true rfl) (mjY_mono ty (fun q_ u1 ty1 h_ => ?_) (w_seek h ty r_req b4 v.length rfl hb (by decide) e2y eb el ew)))))))))))))
            obtain ⟨F1, F2, r, rfl, f1, hF, hl, -, hr⟩ := h_
            intro _
            refine mjZ_y rfl rfl 1 _ _ _ _ ty1 ?_
            refine And.intro rfl (And.intro (Or.inl rfl) ?_)
            refine ⟨r, rfl, f1, h.fr f1 (by decide) (by decide), ?_⟩
            have er : rvI i1 v (y.2.2.2.2.2.2.map (fun z => z.2)) = if skT v (y.2.2.2.2.2.2.map (fun z => z.2)) = true then some (skI v (y.2.2.2.2.2.2.map (fun z => z.2))) else none := if_neg c
            rcases hr with ⟨b, t, F3, hF3, e⟩ | ⟨b, e⟩
            · rw [er, if_pos (skT_iff.mpr b)]
              exact ⟨F1, t, F3, by rw [hF, hF3], hl, e⟩
            · rw [er, if_neg (fun z => b (skT_iff.mp z))]
              exact e
          refine mjZ_y rfl rfl 4 _ _ _ _ ty ?_
          refine (And.intro (Nat.le_of_ble_eq_true rfl) (And.intro rfl (And.intro (Nat.le_of_ble_eq_true rfl) (And.intro (Nat.le_of_ble_eq_true rfl) (mjY_mono ty (fun q_ u1 ty1 h_ => ?_) (mem))))))
          obtain ⟨r, rfl, f1, h1, hr⟩ := h_
          intro _
          refine mjZ_y rfl rfl 1 _ _ _ _ ty1 ?_
          refine (And.intro (Nat.le_of_ble_eq_true rfl) ?_)
          exact go r u1 ty1 h1 f1 hr
        · have c : i1 = 79 := Decidable.of_not_not (fun z => c ((nn 79 (by decide)).mpr z))
          have er : rvI i1 v (y.2.2.2.2.2.2.map (fun z => z.2)) = fdE v (y.2.2.2.2.2.2.map (fun z => z.2)) := if_pos c
          refine mjZ_y rfl rfl 4 _ _ _ _ ty ?_
          refine (And.intro (Nat.le_of_ble_eq_true rfl) (And.intro rfl (And.intro (Nat.le_of_ble_eq_true rfl) (And.intro (Nat.le_of_ble_eq_true rfl) (mjY_mono ty (fun q_ u1 ty1 h_ => ?_) (w_ranked h ty hv e2y e4))))))
          obtain ⟨rfl, r, rfl, hr⟩ := h_
          intro _
          refine mjZ_y rfl rfl 2 _ _ _ _ ty ?_
          refine (And.intro (Nat.le_of_ble_eq_true rfl) ?_)
          exact go r u1 ty h Fr.rf (by rw [er]; exact hr)
def rvF (A : List AK) (w : List Int32) (i1 : Nat) (vs : List (List Int32)) : Option (List AK) := match kyI A w with
  | none => none
  | some p => (match A[p]? with
    | none => none
    | some a => if rvN i1 a.2.2.2.2.2 vs = 0 then none else some (stlA A p (fun es => rvA i1 es vs)))
set_option maxRecDepth 100000 in
theorem r_remove {σ : mjS} {ws : List (List Int32)} {ks : List KR} {l : List Int32} (h : Wd σ ws ks l) (ty : mjTY σ) (i1 : Nat) (hi : i1 < 128) {x1 : Int32} (e1 : x1 = nI i1) {w : List Int32} (h1 : ws[1]? = some w) (hs : l.length + 132 + sz ws ≤ 420000) :
    mjY mjPP (mjQQ Y) (d + 6) 122 0 (mjL0 6 [.ref 0, .int x1]) [] σ (cmdK σ ws ks l i1 (rvF (strip ks) w i1 (ws.drop 2))) := by
  have hlen := (List.getElem?_eq_some_iff.mp h1).1
  have h1024 := h.2.1.2.1
  refine mjZ_y rfl rfl 3 _ _ _ _ ty ?_
  refine (And.intro (Nat.le_of_ble_eq_true rfl) (And.intro rfl (And.intro (Nat.le_of_ble_eq_true rfl) (And.intro (Nat.le_of_ble_eq_true rfl) (mjY_mono ty (fun q_ u1 ty1 h_ => ?_) (w_key h ty h1 (x := Int32.ofInt 1) rfl))))))
  obtain ⟨rfl, rfl⟩ := h_
  intro _
  by_cases kn : kyI (strip ks) w = none
  · have eo : rvF (strip ks) w i1 (ws.drop 2) = none := by unfold rvF; rw [kn]
    rw [eo]
    have e2 := ky_none kn
    have fin : mjY mjPP (mjQQ Y) (d + 6) 122 37 [some (.ref 0), some (.int x1), some (.int (kyS ks w)), some (.int 0), some (.int 2), none] [] u1 (cmdK u1 ws ks l i1 none) := by
      refine mjZ_y rfl rfl 2 _ _ _ _ ty1 ?_
      refine And.intro (fun q => ?_) (fun q => ?_)
      · refine mjZ_y rfl rfl 4 _ _ _ _ ty1 ?_
        refine (And.intro (Nat.le_of_ble_eq_true rfl) (And.intro rfl (And.intro (Nat.le_of_ble_eq_true rfl) (And.intro (Nat.le_of_ble_eq_true rfl) (mjY_mono ty1 (fun q_ u2 ty2 h_ => ?_) (w_number h ty1 _))))))
        obtain ⟨rfl, h2, f2⟩ := h_
        intro _
        refine mjZ_y rfl rfl 1 _ _ _ _ ty2 ?_
        refine And.intro rfl (And.intro rfl ?_)
        exact ⟨rfl, f2.c, ks, h2, rfl⟩
      · exact absurd (show (0 : Int32) ≤ 0 by decide) q
    refine mjZ_y rfl rfl 9 _ _ _ _ ty1 ?_
    refine (And.intro (Nat.le_of_ble_eq_true rfl) (And.intro (Nat.le_of_ble_eq_true rfl) (And.intro (Nat.le_of_ble_eq_true rfl) (And.intro rfl (And.intro (fun q => ?_) (fun q => ?_))))))
    · exact fin
    · refine mjZ_y rfl rfl 2 _ _ _ _ ty1 ?_
      refine And.intro (fun q => ?_) (fun q => ?_)
      · exact fin
      · exact absurd (lt_m1 e2) q
  · obtain ⟨P, y, Q, g0, g1, g2, -⟩ := ky_some kn
    have e2 : kyS ks w = nI y.1 := g2
    generalize kyS ks w = x2 at e2
    subst g0
    have eo : rvF (strip (P ++ y :: Q)) w i1 (ws.drop 2) = if rvN i1 (y.2.2.2.2.2.2.map (fun z => z.2)) (ws.drop 2) = 0 then none else some (stlA (strip (P ++ y :: Q)) P.length (fun es => rvA i1 es (ws.drop 2))) := by
      unfold rvF; rw [g1]
      show (match (strip (P ++ y :: Q))[P.length]? with | none => none | some a => if rvN i1 a.2.2.2.2.2 (ws.drop 2) = 0 then none else some (stlA (strip (P ++ y :: Q)) P.length (fun es => rvA i1 es (ws.drop 2)))) = _
      rw [strip_gt]; rfl
    rw [eo]
    have hle := rvN_le i1 (ws.drop 2) (y.2.2.2.2.2.2.map (fun z => z.2))
    rw [List.length_drop] at hle
    refine mjZ_y rfl rfl 5 _ _ _ _ ty1 ?_
    refine (And.intro (Nat.le_of_ble_eq_true rfl) (And.intro (Nat.le_of_ble_eq_true rfl) (And.intro (Nat.le_of_ble_eq_true rfl) ?_)))
    refine c_rv_loop _ i1 hi x1 e1 y.1 x2 e2 (ws.length - 2) 2 0 u1 y _ _ _ (by omega) (by omega) rfl rfl rfl ty1 h (fun u y' x3 x4 l5 tu fu hy hu eu en => ?_)
    rw [Nat.zero_add] at en
    have fa : Fr cF cH u1 u := fu.up (by decide) (by decide)
    refine mjZ_y rfl rfl 2 _ _ _ _ tu ?_
    refine And.intro (fun q => ?_) (fun q => ?_)
    · have q : rvN i1 (y.2.2.2.2.2.2.map (fun z => z.2)) (ws.drop 2) = 0 := by
        have q : x3 ≤ nI 0 := q
        rw [en] at q
        have := (nI_leI (by omega) (by decide)).mp q; omega
      rw [if_pos q]
      refine mjZ_y rfl rfl 4 _ _ _ _ tu ?_
      refine (And.intro (Nat.le_of_ble_eq_true rfl) (And.intro rfl (And.intro (Nat.le_of_ble_eq_true rfl) (And.intro (Nat.le_of_ble_eq_true rfl) (mjY_mono tu (fun q_ u2 ty2 h_ => ?_) (w_number hu tu _))))))
      obtain ⟨rfl, h2, f2⟩ := h_
      intro _
      refine mjZ_y rfl rfl 1 _ _ _ _ ty2 ?_
      refine And.intro rfl (And.intro rfl ?_)
      refine ⟨rfl, fa.tr f2.c, _, h2, ?_⟩
      have es : st1 y' = st1 y := by
        rw [eu]
        show (y.2.1, y.2.2.1, y.2.2.2.1, tmN y.2.2.2.1 y.2.2.2.2.1, y.2.2.2.2.2.1, rvA i1 (y.2.2.2.2.2.2.map (fun z => z.2)) (ws.drop 2)) = _
        rw [rvN_0 i1 _ _ q]; rfl
      rw [strip_app, strip_cons, strip_app, strip_cons, es]
    · have q : ¬ rvN i1 (y.2.2.2.2.2.2.map (fun z => z.2)) (ws.drop 2) = 0 := fun z => q (show x3 ≤ nI 0 by rw [en, z]; exact nI_le (Nat.le_refl _) (by decide))
      rw [if_neg q]
      have hl5 := W_len hu
      refine mjZ_y rfl rfl 3 _ _ _ _ tu ?_
      refine (And.intro (Nat.le_of_ble_eq_true rfl) (And.intro rfl (And.intro (Nat.le_of_ble_eq_true rfl) (And.intro (Nat.le_of_ble_eq_true rfl) (mjY_mono tu (fun q_ u6 ty6 h_ => ?_) (w_settle hu tu (show x2 = nI y'.1 by rw [hy]; exact e2) (by omega)))))))
      obtain ⟨rfl, f6, h6⟩ := h_
      intro _
      have fb := fa.tr f6.k1
      rcases h6 with ⟨z, h6⟩ | ⟨z, h6⟩
      · refine mjZ_y rfl rfl 3 _ _ _ _ ty6 ?_
        refine (And.intro (Nat.le_of_ble_eq_true rfl) (And.intro rfl (And.intro (Nat.le_of_ble_eq_true rfl) (And.intro (Nat.le_of_ble_eq_true rfl) (mjY_mono ty6 (fun q_ u7 ty7 h_ => ?_) (w_noteAll h6 ty6 (by omega) i1 e1 hi hs))))))
        obtain ⟨rfl, h7, f7⟩ := h_
        intro _
        refine mjZ_y rfl rfl 4 _ _ _ _ ty7 ?_
        refine (And.intro (Nat.le_of_ble_eq_true rfl) (And.intro rfl (And.intro (Nat.le_of_ble_eq_true rfl) (And.intro (Nat.le_of_ble_eq_true rfl) (mjY_mono ty7 (fun q_ u8 ty8 h_ => ?_) (w_number h7 ty7 _))))))
        obtain ⟨rfl, h8, f8⟩ := h_
        intro _
        refine mjZ_y rfl rfl 1 _ _ _ _ ty8 ?_
        refine And.intro rfl (And.intro rfl ?_)
        rw [ntA_fr fb] at h8
        exact ⟨rfl, (fb.tr f7.n).tr f8.c, _, h8, stl_nil eu z⟩
      · refine mjZ_y rfl rfl 3 _ _ _ _ ty6 ?_
        refine (And.intro (Nat.le_of_ble_eq_true rfl) (And.intro rfl (And.intro (Nat.le_of_ble_eq_true rfl) (And.intro (Nat.le_of_ble_eq_true rfl) (mjY_mono ty6 (fun q_ u7 ty7 h_ => ?_) (w_noteAll h6 ty6 (by omega) i1 e1 hi hs))))))
        obtain ⟨rfl, h7, f7⟩ := h_
        intro _
        refine mjZ_y rfl rfl 4 _ _ _ _ ty7 ?_
        refine (And.intro (Nat.le_of_ble_eq_true rfl) (And.intro rfl (And.intro (Nat.le_of_ble_eq_true rfl) (And.intro (Nat.le_of_ble_eq_true rfl) (mjY_mono ty7 (fun q_ u8 ty8 h_ => ?_) (w_number h7 ty7 _))))))
        obtain ⟨rfl, h8, f8⟩ := h_
        intro _
        refine mjZ_y rfl rfl 1 _ _ _ _ ty8 ?_
        refine And.intro rfl (And.intro rfl ?_)
        rw [ntA_fr fb] at h8
        exact ⟨rfl, (fb.tr f7.n).tr f8.c, _, h8, stl_cons eu z⟩
end REM
