/-! SADD, SPOP and what is told of sets, SMOVE. -/
section SET2
variable {Y : Nat → MethodName × ByteArray} {d : Nat}
set_option maxRecDepth 100000 in
theorem w_memS {σ : mjS} {ws : List (List Int32)} {P Q : List KR} {y : KR} {l : List Int32} (h : Wd σ ws (P ++ y :: Q) l) (ty : mjTY σ) {i : Nat} {v : List Int32} (hv : ws[i]? = some v) {x1 x2 : Int32} (e1 : x1 = nI y.1) (e2 : x2 = nI i) : mjY mjPP (mjQQ Y) (d + 2) 116 0 (mjL0 3 [.ref 0, .int x1, .int x2]) [] σ (fun q u => ∃ r, q = some (.int r) ∧ Fr [f_found] [] σ u ∧ Wd u ws (P ++ y :: Q) l ∧ ((skT v (y.2.2.2.2.2.2.map (fun z => z.2)) = true ∧ ∃ F1 t F2, y.2.2.2.2.2.2 = F1 ++ t :: F2 ∧ F1.length = skI v (y.2.2.2.2.2.2.map (fun z => z.2)) ∧ r = nI t.1 ∧ t.1 < 10000) ∨ (¬ skT v (y.2.2.2.2.2.2.map (fun z => z.2)) = true ∧ r = -1))) := by
  obtain ⟨v4, b4, eb, el, hb, ew⟩ := h.2.1.clamp hv e2
  refine mjZ_y rfl rfl 13 _ _ _ _ ty ?_
  refine (And.intro rfl (And.intro rfl (And.intro rfl (And.intro v4 (And.intro rfl (And.intro rfl (And.intro v4 (And.intro (Nat.le_of_ble_eq_true rfl) (And.intro rfl (And.intro (Nat.le_of_ble_eq_true rfl) (And.intro (Nat.le_of_ble_eq_true rfl) (mjY_mono ty (fun q_ u1 ty1 h_ => ?_) (w_seek h ty r_req b4 v.length rfl hb (by decide) e1 eb el ew)))))))))))))
  obtain ⟨F1, F2, r, rfl, f1, hF, hl, -, hr⟩ := h_
  intro _
  refine mjZ_y rfl rfl 1 _ _ _ _ ty1 ?_
  refine And.intro rfl (And.intro (Or.inl rfl) ?_)
  refine ⟨r, rfl, f1, h.fr f1 (by decide) (by decide), ?_⟩
  rcases hr with ⟨b, t, F3, hF3, e⟩ | ⟨b, e⟩
  · refine Or.inl ⟨skT_iff.mpr b, F1, t, F3, by rw [hF, hF3], hl, e, ?_⟩
    exact (h.eid (y := t) (by rw [hF, hF3]; exact List.mem_append_right _ List.mem_cons_self)).elim (fun _ k => k.2.1)
  · exact Or.inr ⟨fun z => b (skT_iff.mp z), e⟩
set_option maxRecDepth 100000 in
theorem w_mem0 {σ : mjS} {ws : List (List Int32)} {ks : List KR} {l : List Int32} (h : Wd σ ws ks l) (ty : mjTY σ) {i : Nat} {v : List Int32} (hv : ws[i]? = some v) {x1 x2 : Int32} (e1 : x1 = -1) (e2 : x2 = nI i) : mjY mjPP (mjQQ Y) (d + 2) 116 0 (mjL0 3 [.ref 0, .int x1, .int x2]) [] σ (fun q u => q = some (.int (-1)) ∧ Fr [f_found] [] σ u ∧ Wd u ws ks l) := by
  obtain ⟨v4, b4, eb, el, hb, ew⟩ := h.2.1.clamp hv e2
  refine mjZ_y rfl rfl 13 _ _ _ _ ty ?_
  refine (And.intro rfl (And.intro rfl (And.intro rfl (And.intro v4 (And.intro rfl (And.intro rfl (And.intro v4 (And.intro (Nat.le_of_ble_eq_true rfl) (And.intro rfl (And.intro (Nat.le_of_ble_eq_true rfl) (And.intro (Nat.le_of_ble_eq_true rfl) (mjY_mono ty (fun q_ u1 ty1 h_ => ?_) (w_seek0 ty r_req e1)))))))))))))
  obtain ⟨rfl, f1⟩ := h_
  intro _
  refine mjZ_y rfl rfl 1 _ _ _ _ ty1 ?_
  refine And.intro rfl (And.intro (Or.inl rfl) ?_)
  exact ⟨rfl, f1, h.fr f1 (by decide) (by decide)⟩
/-- SADD: the store, where the key is, the words -/
def curH (A : List AK) (cur : Option Nat) (v : List Int32) : Bool := match cur with
  | none => false
  | some p => (match A[p]? with
    | some a => skT v a.2.2.2.2.2
    | none => false)
def saA (w : List Int32) : List AK → Option Nat → List (List Int32) → List AK
  | A, _, [] => A
  | A, cur, v :: r => if curH A cur v = true then saA w A cur r else saA w (upA (orA A w 3).1 (orA A w 3).2 (esF (ptE v))) (some (orA A w 3).2) r
def saN (w : List Int32) : List AK → Option Nat → List (List Int32) → Nat
  | _, _, [] => 0
  | A, cur, v :: r => if curH A cur v = true then saN w A cur r else saN w (upA (orA A w 3).1 (orA A w 3).2 (esF (ptE v))) (some (orA A w 3).2) r + 1
theorem saN_0 (w : List Int32) : ∀ (r : List (List Int32)) (A : List AK) (cur : Option Nat), saN w A cur r = 0 → saA w A cur r = A := by
  intro r
  induction r with
  | nil => intro A cur _; rfl
  | cons v r ih =>
    intro A cur h
    have h : (if curH A cur v = true then saN w A cur r else saN w (upA (orA A w 3).1 (orA A w 3).2 (esF (ptE v))) (some (orA A w 3).2) r + 1) = 0 := h
    show (if curH A cur v = true then saA w A cur r else saA w (upA (orA A w 3).1 (orA A w 3).2 (esF (ptE v))) (some (orA A w 3).2) r) = A
    by_cases c : curH A cur v = true
    · rw [if_pos c] at h ⊢; exact ih A cur h
    · rw [if_neg c] at h; omega
theorem saN_le (w : List Int32) : ∀ (r : List (List Int32)) (A : List AK) (cur : Option Nat), saN w A cur r ≤ r.length := by
  intro r
  induction r with
  | nil => intro A cur; exact Nat.le_refl _
  | cons v r ih =>
    intro A cur
    show (if curH A cur v = true then saN w A cur r else saN w (upA (orA A w 3).1 (orA A w 3).2 (esF (ptE v))) (some (orA A w 3).2) r + 1) ≤ r.length + 1
    have := ih A cur
    have := ih (upA (orA A w 3).1 (orA A w 3).2 (esF (ptE v))) (some (orA A w 3).2)
    split <;> omega
/-- a place among the keys, or none -/
def CU (ks : List KR) (cur : Option Nat) (x : Int32) : Prop := (cur = none ∧ x = -1) ∨ ∃ P y Q, ks = P ++ y :: Q ∧ cur = some P.length ∧ x = nI y.1
theorem ky_cu (ks : List KR) (w : List Int32) : CU ks (kyI (strip ks) w) (kyS ks w) := by
  rcases ky_cases ks w with ⟨a, b⟩ | ⟨P, y, Q, a, b, c, -⟩
  · exact Or.inl ⟨a, b⟩
  · exact Or.inr ⟨P, y, Q, a, b, c⟩
theorem ptF_m (A : List AK) (w v : List Int32) (s : Int32) : tT (upA (orA A w s).1 (orA A w s).2 (esF (ptE v))) ≤ tT A + w.length + v.length ∧ (upA (orA A w s).1 (orA A w s).2 (esF (ptE v))).length ≤ A.length + 1 ∧ eN (upA (orA A w s).1 (orA A w s).2 (esF (ptE v))) ≤ eN A + 1 := by
  have e := orA_m A w s
  refine ⟨Nat.le_trans (upA_tT _ _ _ v.length fun a => ?_) (by omega), by rw [upA_len]; exact e.2.1, Nat.le_trans (upA_eN _ _ _ 1 fun a => ?_) (by omega)⟩
  · rw [tT_1, tT_1]; have := (ptE_tT v a.2.2.2.2.2).1; show a.1.length + a.2.2.2.2.1.length + eT (ptE v a.2.2.2.2.2) ≤ _; omega
  · rw [eN_1, eN_1]; exact (ptE_tT v a.2.2.2.2.2).2
theorem orA_m2 (A : List AK) (w : List Int32) (s : Int32) : tT (orA A w s).1 ≤ tT A + (if kyI A w = none then w.length else 0) ∧ (orA A w s).1.length ≤ A.length + (if kyI A w = none then 1 else 0) ∧ eN (orA A w s).1 = eN A := by
  have m := orA_m A w s
  cases h : kyI A w with
  | none => rw [if_pos rfl, if_pos rfl]; exact m
  | some p => rw [orA_some h, if_neg (fun q => by cases q), if_neg (fun q => by cases q)]; exact ⟨Nat.le_refl _, Nat.le_refl _, rfl⟩
theorem ptF_m2 (A : List AK) (w v : List Int32) (s : Int32) : tT (upA (orA A w s).1 (orA A w s).2 (esF (ptE v))) ≤ tT A + (if kyI A w = none then w.length else 0) + v.length ∧ (upA (orA A w s).1 (orA A w s).2 (esF (ptE v))).length ≤ A.length + (if kyI A w = none then 1 else 0) ∧ eN (upA (orA A w s).1 (orA A w s).2 (esF (ptE v))) ≤ eN A + 1 := by
  have e := orA_m2 A w s
  refine ⟨Nat.le_trans (upA_tT _ _ _ v.length fun a => ?_) (by omega), by rw [upA_len]; exact e.2.1, Nat.le_trans (upA_eN _ _ _ 1 fun a => ?_) (by omega)⟩
  · rw [tT_1, tT_1]; have := (ptE_tT v a.2.2.2.2.2).1; show a.1.length + a.2.2.2.2.1.length + eT (ptE v a.2.2.2.2.2) ≤ _; omega
  · rw [eN_1, eN_1]; exact (ptE_tT v a.2.2.2.2.2).2
theorem esF_1 (g : List AE → List AE) (a : AK) : (esF g a).1 = a.1 := rfl
set_option maxRecDepth 100000 in
theorem c_sa_loop (K : mjK) {ws : List (List Int32)} {l : List Int32} {w : List Int32} (h1 : ws[1]? = some w) (hwl : w.length ≤ 100000) : ∀ (m a n : Nat) (σ : mjS) (ks : List KR) (cur : Option Nat) (x1 x2 x3 : Int32), SRT (strip ks) → a + m = ws.length → n + m ≤ 2000 → CU ks cur x1 → x2 = nI n → x3 = nI a → mjTY σ → Wd σ ws ks l → tT (strip ks) + (if kyI (strip ks) w = none then w.length else 0) + sl (ws.drop a) ≤ 200000 → eN (strip ks) + m < 10000 → ks.length + (if kyI (strip ks) w = none then 1 else 0) < 4700 →
    (∀ u ks' cur' x1 x2 x3, mjTY u → Fr (f_found :: kF) kH σ u → Wd u ws ks' l → strip ks' = saA w (strip ks) cur (ws.drop a) → x2 = nI (n + saN w (strip ks) cur (ws.drop a)) → CU ks' cur' x1 → ((cur ≠ none ∨ ¬ saN w (strip ks) cur (ws.drop a) = 0) → cur' ≠ none) → mjY mjPP (mjQQ Y) (d + 5) 123 40 [some (.ref 0), some (.int x1), some (.int x2), some (.int x3)] [] u K) →
    mjY mjPP (mjQQ Y) (d + 5) 123 8 [some (.ref 0), some (.int x1), some (.int x2), some (.int x3)] [] σ K := by
  have h1l := (List.getElem?_eq_some_iff.mp h1).1
  intro m
  induction m with
  | zero =>
    intro a n σ ks cur x1 x2 x3 hS ha hn hc e2 e3 ty h ht he hk hK
    have h1024 := h.2.1.2.1
    refine mjZ_y rfl rfl 4 _ _ _ _ ty ?_
    refine (And.intro rfl (And.intro (fun q => ?_) (fun q => ?_)))
    · refine hK σ ks cur _ _ _ ty Fr.rf h ?_ ?_ hc ?_
      · rw [List.drop_of_length_le (by omega)]; rfl
      · rw [List.drop_of_length_le (by omega)]; exact e2
      · rw [List.drop_of_length_le (by omega)]; exact fun z => z.elim id (fun t => absurd rfl t)
    · exact absurd (show σ.1 f_words ≤ x3 by rw [h.2.1.1, e3]; exact nI_le (by omega) (by omega)) q
  | succ m ih =>
    intro a n σ ks cur x1 x2 x3 hS ha hn hc e2 e3 ty h ht he hk hK
    have h1024 := h.2.1.2.1
    obtain ⟨v, hv, ed⟩ := drop1 ha
    rw [ed] at hK ht
    have ht : tT (strip ks) + (if kyI (strip ks) w = none then w.length else 0) + (v.length + sl (ws.drop (a + 1))) ≤ 200000 := ht
    have eA : saA w (strip ks) cur (v :: ws.drop (a + 1)) = (if curH (strip ks) cur v = true then saA w (strip ks) cur (ws.drop (a + 1)) else saA w (upA (orA (strip ks) w 3).1 (orA (strip ks) w 3).2 (esF (ptE v))) (some (orA (strip ks) w 3).2) (ws.drop (a + 1))) := rfl
    have eNN : saN w (strip ks) cur (v :: ws.drop (a + 1)) = (if curH (strip ks) cur v = true then saN w (strip ks) cur (ws.drop (a + 1)) else saN w (upA (orA (strip ks) w 3).1 (orA (strip ks) w 3).2 (esF (ptE v))) (some (orA (strip ks) w 3).2) (ws.drop (a + 1)) + 1) := rfl
    rw [eA, eNN] at hK
    obtain ⟨v3, -⟩ := h.2.1.clamp hv e3
    -- the word is there
    have has : ∀ u : mjS, mjTY u → Wd u ws ks l → Fr [f_found] [] σ u → curH (strip ks) cur v = true → mjY mjPP (mjQQ Y) (d + 5) 123 17 [some (.ref 0), some (.int x1), some (.int x2), some (.int x3)] [] u K := by
      intro u tu hu fu hh
      rw [if_pos hh, if_pos hh] at hK
      refine mjZ_y rfl rfl 3 _ _ _ _ tu ?_
      exact ih (a + 1) n u ks cur _ _ _ hS (by omega) (by omega) hc e2 (by rw [e3]; exact nI_1 a) tu hu (by omega) (by omega) (by omega) (fun w' ks' cur' x1 x2 x3 tw fw hw ew en hc' hz => hK w' ks' cur' x1 x2 x3 tw ((fu.up (by decide) (fun _ q => by cases q)).tr fw) hw ew en hc' hz)
    have hasnt : ∀ u : mjS, mjTY u → Wd u ws ks l → Fr [f_found] [] σ u → ¬ curH (strip ks) cur v = true → mjY mjPP (mjQQ Y) (d + 5) 123 18 [some (.ref 0), some (.int x1), some (.int x2), some (.int x3)] [] u K := by
      intro u tu hu fu hh
      rw [if_neg hh, if_neg hh] at hK
      have om := orA_m2 (strip ks) w 3
      have pm := ptF_m2 (strip ks) w v 3
      refine mjZ_y rfl rfl 4 _ _ _ _ tu ?_
      refine (And.intro (Nat.le_of_ble_eq_true rfl) (And.intro rfl (And.intro (Nat.le_of_ble_eq_true rfl) (And.intro (Nat.le_of_ble_eq_true rfl) (mjY_mono tu (fun q_ u2 ty2 h_ => ?_) (w_makeOr hu tu h1 (x := Int32.ofInt 1) rfl 3 (by omega) (by omega) (by omega)))))))
      obtain ⟨P, y, Q, rfl, h4, f4, g1, g2⟩ := h_
      intro _
      refine mjZ_y rfl rfl 14 _ _ _ _ ty2 ?_
      refine (And.intro (Nat.le_of_ble_eq_true rfl) (And.intro rfl (And.intro rfl (And.intro rfl (And.intro v3 (And.intro rfl (And.intro rfl (And.intro v3 (And.intro (Nat.le_of_ble_eq_true rfl) (And.intro rfl (And.intro (Nat.le_of_ble_eq_true rfl) (And.intro (Nat.le_of_ble_eq_true rfl) (mjY_mono ty2 (fun q_ u3 ty3 h_ => ?_) (w_put h4 ty2 hv rfl e3 (by rw [g1]; omega) (by rw [g1]; omega) (by rw [g1]; omega)))))))))))))))
      obtain ⟨F1, t, F2, rfl, f5, h5, hl, hm⟩ := h_
      intro _
      refine mjZ_y rfl rfl 4 _ _ _ _ ty3 ?_
      have es : strip (P ++ withE y (F1 ++ t :: F2) :: Q) = upA (orA (strip ks) w 3).1 (orA (strip ks) w 3).2 (esF (ptE v)) := by
        rw [← g1, ← g2]; exact strip_up (st1_with hm)
      have el : (P ++ withE y (F1 ++ t :: F2) :: Q).length ≤ ks.length + (if kyI (strip ks) w = none then 1 else 0) := by rw [← strip_len, es, ← strip_len ks]; exact pm.2.1
      have hS2 : SRT (strip (P ++ withE y (F1 ++ t :: F2) :: Q)) := by rw [es]; exact SRT_up (esF_1 _) (kyI_or hS w 3).1
      have kk : kyI (strip (P ++ withE y (F1 ++ t :: F2) :: Q)) w ≠ none := by rw [es, kyI_up _ _ _ (esF_1 _), (kyI_or hS w 3).2]; exact fun q => by cases q
      have ff : Fr (f_found :: kF) kH σ u3 := ((fu.up (by decide) (fun _ q => by cases q)).tr (f4.up (by decide) (fun _ q => q))).tr f5
      refine ih (a + 1) (n + 1) u3 (P ++ withE y (F1 ++ t :: F2) :: Q) (some (orA (strip ks) w 3).2) _ _ _ hS2 (by omega) (by omega) (Or.inr ⟨P, withE y (F1 ++ t :: F2), Q, rfl, by rw [g2], rfl⟩) (by rw [e2]; exact nI_1 n) (by rw [e3]; exact nI_1 a) ty3 h5 (by rw [if_neg kk, es]; omega) (by rw [es]; omega) (by rw [if_neg kk]; omega) (fun w' ks' cur' x1 x2 x3 tw fw hw ew en hc' hz => hK w' ks' cur' x1 x2 x3 tw (ff.tr fw) hw ?_ ?_ hc' ?_)
      · rw [es] at ew; exact ew
      · rw [en, es]; congr 1; omega
      · exact fun _ => hz (Or.inl (fun z => by cases z))
    refine mjZ_y rfl rfl 4 _ _ _ _ ty ?_
    refine (And.intro rfl (And.intro (fun q => ?_) (fun q => ?_)))
    · exact absurd (show σ.1 f_words ≤ x3 from q) (by rw [h.2.1.1, e3]; exact nI_ge (by omega) (by omega))
    · rcases hc with ⟨c1, c2⟩ | ⟨P, y, Q, g0, c1, c2⟩
      · have nh : ¬ curH (strip ks) cur v = true := by rw [c1]; exact fun z => absurd (show false = true from z) (by decide)
        refine mjZ_y rfl rfl 4 _ _ _ _ ty ?_
        refine (And.intro (Nat.le_of_ble_eq_true rfl) (And.intro rfl (And.intro (Nat.le_of_ble_eq_true rfl) (And.intro (Nat.le_of_ble_eq_true rfl) (mjY_mono ty (fun q_ u1 ty1 h_ => ?_) (w_mem0 h ty hv c2 e3))))))
        obtain ⟨rfl, f1, h2⟩ := h_
        intro _
        refine mjZ_y rfl rfl 1 _ _ _ _ ty1 ?_
        refine And.intro (fun c => ?_) (fun c => ?_)
        · exact hasnt u1 ty1 h2 f1 nh
        · exact absurd (lt_m1 rfl) c
      · have h' : Wd σ ws (P ++ y :: Q) l := by rw [← g0]; exact h
        have ec : curH (strip ks) cur v = skT v (y.2.2.2.2.2.2.map (fun z => z.2)) := by
          rw [c1, g0]
          show (match (strip (P ++ y :: Q))[P.length]? with | some a => skT v a.2.2.2.2.2 | none => false) = _
          rw [strip_gt]; rfl
        refine mjZ_y rfl rfl 4 _ _ _ _ ty ?_
        refine (And.intro (Nat.le_of_ble_eq_true rfl) (And.intro rfl (And.intro (Nat.le_of_ble_eq_true rfl) (And.intro (Nat.le_of_ble_eq_true rfl) (mjY_mono ty (fun q_ u1 ty1 h_ => ?_) (w_memS h' ty hv c2 e3))))))
        obtain ⟨r, rfl, f1, h2, hr⟩ := h_
        intro _
        rw [← g0] at h2
        refine mjZ_y rfl rfl 1 _ _ _ _ ty1 ?_
        refine And.intro (fun c => ?_) (fun c => ?_)
        · rcases hr with ⟨b, F1, t, F2, -, -, er, tid⟩ | ⟨b, er⟩
          · exact absurd (show r < 0 from c) (lt_nI (by omega) er)
          · exact hasnt u1 ty1 h2 f1 (by rw [ec]; exact b)
        · rcases hr with ⟨b, -⟩ | ⟨b, er⟩
          · exact has u1 ty1 h2 f1 (by rw [ec]; exact b)
          · exact absurd (lt_m1 er) c
def saF (A : List AK) (w : List Int32) (vs : List (List Int32)) : Option (List AK) := if saN w A (kyI A w) vs = 0 then none else some (saA w A (kyI A w) vs)
set_option maxRecDepth 100000 in
theorem r_add {σ : mjS} {ws : List (List Int32)} {ks : List KR} {l : List Int32} (h : Wd σ ws ks l) (ty : mjTY σ) {w : List Int32} (h1 : ws[1]? = some w) (hS : SRT (strip ks)) (ht : tT (strip ks) + sl ws ≤ 200000) (hn : eN (strip ks) + ws.length < 10000) (hl : ks.length + 1 < 4700) (hwl : w.length ≤ 100000) (hs : l.length + 132 + sz ws ≤ 420000) :
    mjY mjPP (mjQQ Y) (d + 6) 123 0 (mjL0 4 [.ref 0]) [] σ (cmdK σ ws ks l 64 (saF (strip ks) w (ws.drop 2))) := by
  have hlen := (List.getElem?_eq_some_iff.mp h1).1
  have h1024 := h.2.1.2.1
  have hsl : w.length + sl (ws.drop 2) ≤ sl ws := sl_get h1
  have hle := saN_le w (ws.drop 2) (strip ks) (kyI (strip ks) w)
  rw [List.length_drop] at hle
  refine mjZ_y rfl rfl 3 _ _ _ _ ty ?_
  refine (And.intro (Nat.le_of_ble_eq_true rfl) (And.intro rfl (And.intro (Nat.le_of_ble_eq_true rfl) (And.intro (Nat.le_of_ble_eq_true rfl) (mjY_mono ty (fun q_ u1 ty1 h_ => ?_) (w_key h ty h1 (x := Int32.ofInt 1) rfl))))))
  obtain ⟨rfl, rfl⟩ := h_
  intro _
  refine mjZ_y rfl rfl 5 _ _ _ _ ty1 ?_
  refine (And.intro (Nat.le_of_ble_eq_true rfl) (And.intro (Nat.le_of_ble_eq_true rfl) (And.intro (Nat.le_of_ble_eq_true rfl) ?_)))
  refine c_sa_loop _ h1 hwl (ws.length - 2) 2 0 u1 ks (kyI (strip ks) w) _ _ _ hS (by omega) (by omega) (ky_cu ks w) rfl rfl ty1 h (by split <;> omega) (by omega) (by split <;> omega) (fun u ks' cur' x1 x2 x3 tu fu hu eu en hc hz => ?_)
  rw [Nat.zero_add] at en
  have fa : Fr cF cH u1 u := fu.up (by decide) (by decide)
  refine mjZ_y rfl rfl 2 _ _ _ _ tu ?_
  refine And.intro (fun q => ?_) (fun q => ?_)
  · have q : saN w (strip ks) (kyI (strip ks) w) (ws.drop 2) = 0 := by
      have q : x2 ≤ nI 0 := q
      rw [en] at q
      have := (nI_leI (by omega) (by decide)).mp q; omega
    have eo : saF (strip ks) w (ws.drop 2) = none := if_pos q
    rw [eo]
    refine mjZ_y rfl rfl 4 _ _ _ _ tu ?_
    refine (And.intro (Nat.le_of_ble_eq_true rfl) (And.intro rfl (And.intro (Nat.le_of_ble_eq_true rfl) (And.intro (Nat.le_of_ble_eq_true rfl) (mjY_mono tu (fun q_ u2 ty2 h_ => ?_) (w_number hu tu _))))))
    obtain ⟨rfl, h2, f2⟩ := h_
    intro _
    refine mjZ_y rfl rfl 1 _ _ _ _ ty2 ?_
    refine And.intro rfl (And.intro rfl ?_)
    exact ⟨rfl, fa.tr f2.c, ks', h2, by rw [eu]; exact saN_0 _ _ _ _ q⟩
  · have q : ¬ saN w (strip ks) (kyI (strip ks) w) (ws.drop 2) = 0 := fun z => q (show x2 ≤ nI 0 by rw [en, z]; exact nI_le (Nat.le_refl _) (by decide))
    have eo : saF (strip ks) w (ws.drop 2) = some (saA w (strip ks) (kyI (strip ks) w) (ws.drop 2)) := if_neg q
    rw [eo]
    rcases hc with ⟨c1, -⟩ | ⟨P, y, Q, g0, -, c2⟩
    · exact absurd c1 (hz (Or.inr q))
    · refine mjZ_y rfl rfl 3 _ _ _ _ tu ?_
      refine (And.intro (Nat.le_of_ble_eq_true rfl) (And.intro rfl (And.intro (Nat.le_of_ble_eq_true rfl) (And.intro (Nat.le_of_ble_eq_true rfl) (mjY_mono tu (fun q_ u2 ty2 h_ => ?_) (w_touch hu tu (x := y) (by rw [g0]; exact List.mem_append_right _ List.mem_cons_self) c2))))))
      obtain ⟨rfl, h2, f2⟩ := h_
      intro _
      refine mjZ_y rfl rfl 3 _ _ _ _ ty2 ?_
      refine (And.intro (Nat.le_of_ble_eq_true rfl) (And.intro rfl (And.intro (Nat.le_of_ble_eq_true rfl) (And.intro (Nat.le_of_ble_eq_true rfl) (mjY_mono ty2 (fun q_ u3 ty3 h_ => ?_) (w_noteAll h2 ty2 (by omega) 64 rfl (by decide) hs))))))
      obtain ⟨rfl, h3, f3⟩ := h_
      intro _
      refine mjZ_y rfl rfl 4 _ _ _ _ ty3 ?_
      refine (And.intro (Nat.le_of_ble_eq_true rfl) (And.intro rfl (And.intro (Nat.le_of_ble_eq_true rfl) (And.intro (Nat.le_of_ble_eq_true rfl) (mjY_mono ty3 (fun q_ u4 ty4 h_ => ?_) (w_number h3 ty3 _))))))
      obtain ⟨rfl, h4, f4⟩ := h_
      intro _
      refine mjZ_y rfl rfl 1 _ _ _ _ ty4 ?_
      refine And.intro rfl (And.intro rfl ?_)
      have fb := fa.tr f2.t
      rw [ntA_fr fb] at h4
      exact ⟨rfl, (fb.tr f3.n).tr f4.c, ks', h4, eu⟩
-- the elements of a key are told
set_option maxRecDepth 100000 in
theorem c_sm_loop (K : mjK) (x1 x2 : Int32) {ws : List (List Int32)} {l : List Int32} {P Q : List KR} {y : KR} : ∀ (E2 E1 : List ER) (σ : mjS) (x3 : Int32), y.2.2.2.2.2.2 = E1 ++ E2 → x3 = nx (ids E2) → mjTY σ → Wd σ ws (P ++ y :: Q) l → (∀ u, Fr cF cH σ u → Wd u ws (P ++ y :: Q) l → K none u) →
    mjY mjPP (mjQQ Y) (d + 3) 124 72 [some (.ref 0), some (.int x1), some (.int x2), some (.int x3)] [] σ K := by
  intro E2
  induction E2 with
  | nil =>
    intro E1 σ x3 hE e3 ty h hK
    refine mjZ_y rfl rfl 2 _ _ _ _ ty ?_
    refine And.intro (fun q => ?_) (fun q => ?_)
    · refine mjZ_y rfl rfl 2 _ _ _ _ ty ?_
      refine And.intro rfl (And.intro rfl ?_)
      exact hK σ Fr.rf h
    · exact absurd (lt_m1 e3) q
  | cons z E2 ih =>
    intro E1 σ x3 hE e3 ty h hK
    have e3 : x3 = nI z.1 := e3
    obtain ⟨hs, hh, ho⟩ := h.eid (y := z) (by rw [hE]; exact List.mem_append_right _ List.mem_cons_self)
    have hid := ho.1
    obtain ⟨-, -, v3⟩ := W_next h hE e3
    refine mjZ_y rfl rfl 2 _ _ _ _ ty ?_
    refine And.intro (fun q => ?_) (fun q => ?_)
    · exact absurd (show x3 < 0 from q) (lt_nI (by omega) e3)
    · refine mjZ_y rfl rfl 12 _ _ _ _ ty ?_
      refine (And.intro rfl (And.intro rfl (And.intro rfl (And.intro v3 (And.intro rfl (And.intro rfl (And.intro v3 (And.intro (Nat.le_of_ble_eq_true rfl) (And.intro rfl (And.intro (Nat.le_of_ble_eq_true rfl) (And.intro (Nat.le_of_ble_eq_true rfl) (mjY_mono ty (fun q_ u1 ty1 h_ => ?_) (w_wordR h ty ho.2.1 hh (by omega) e3)))))))))))))
      obtain ⟨rfl, h1, f1⟩ := h_
      intro _
      obtain ⟨hN, -, -⟩ := W_next h1 hE e3
      refine mjZ_y rfl rfl 6 _ _ _ _ ty1 ?_
      refine (And.intro rfl (And.intro rfl (And.intro v3 (And.intro (Nat.le_of_ble_eq_true rfl) ?_))))
      exact ih (E1 ++ [z]) u1 _ (by rw [hE, List.append_assoc]; rfl) hN ty1 h1 (fun u fu hu => hK u (f1.c.tr fu) hu)
set_option maxRecDepth 100000 in
theorem c_sis_loop (K : mjK) (x1 : Int32) {w : List Int32} {ws : List (List Int32)} {ks : List KR} {l : List Int32} (x2 : Int32) (e2 : x2 = kyS ks w) : ∀ (m a : Nat) (σ : mjS) (x3 : Int32), a + m = ws.length → x3 = nI a → mjTY σ → Wd σ ws ks l → (∀ u, Fr cF cH σ u → Wd u ws ks l → K none u) →
    mjY mjPP (mjQQ Y) (d + 3) 124 29 [some (.ref 0), some (.int x1), some (.int x2), some (.int x3)] [] σ K := by
  intro m
  induction m with
  | zero =>
    intro a σ x3 ha e3 ty h hK
    have h1024 := h.2.1.2.1
    refine mjZ_y rfl rfl 4 _ _ _ _ ty ?_
    refine (And.intro rfl (And.intro (fun q => ?_) (fun q => ?_)))
    · refine mjZ_y rfl rfl 2 _ _ _ _ ty ?_
      refine And.intro rfl (And.intro rfl ?_)
      exact hK σ Fr.rf h
    · exact absurd (show σ.1 f_words ≤ x3 by rw [h.2.1.1, e3]; exact nI_le (by omega) (by omega)) q
  | succ m ih =>
    intro a σ x3 ha e3 ty h hK
    have h1024 := h.2.1.2.1
    obtain ⟨v, hv, ed⟩ := drop1 ha
    have tail : ∀ (u : mjS) (z : Int64), mjTY u → Wd u ws ks l → Fr cF cH σ u → mjY mjPP (mjQQ Y) (d + 3) 124 42 [some (.ref 0), some (.int x1), some (.int x2), some (.int x3)] [.long z, .ref 0] u K := by
      intro u z tu hu fu
      refine mjZ_y rfl rfl 1 _ _ _ _ tu ?_
      refine (And.intro (Nat.le_of_ble_eq_true rfl) (And.intro rfl (And.intro (Nat.le_of_ble_eq_true rfl) (And.intro (Nat.le_of_ble_eq_true rfl) (mjY_mono tu (fun q_ u2 ty2 h_ => ?_) (w_number hu tu _))))))
      obtain ⟨rfl, h2, f2⟩ := h_
      intro _
      refine mjZ_y rfl rfl 2 _ _ _ _ ty2 ?_
      exact ih (a + 1) u2 _ (by omega) (by rw [e3]; exact nI_1 a) ty2 h2 (fun w' fw hw => hK w' ((fu.tr f2.c).tr fw) hw)
    refine mjZ_y rfl rfl 4 _ _ _ _ ty ?_
    refine (And.intro rfl (And.intro (fun q => ?_) (fun q => ?_)))
    · exact absurd (show σ.1 f_words ≤ x3 from q) (by rw [h.2.1.1, e3]; exact nI_ge (by omega) (by omega))
    · refine mjZ_y rfl rfl 5 _ _ _ _ ty ?_
      refine (And.intro (Nat.le_of_ble_eq_true rfl) (And.intro rfl (And.intro (Nat.le_of_ble_eq_true rfl) (And.intro (Nat.le_of_ble_eq_true rfl) (mjY_mono ty (fun q_ u1 ty1 h_ => ?_) (w_member h ty (w := w) hv e2 e3))))))
      obtain ⟨r, rfl, f1, h1, hr⟩ := h_
      intro _
      have f1c : Fr cF cH σ u1 := f1.up (by decide) (by decide)
      refine mjZ_y rfl rfl 1 _ _ _ _ ty1 ?_
      refine And.intro (fun c => ?_) (fun c => ?_)
      · refine mjZ_y rfl rfl 1 _ _ _ _ ty1 ?_
        exact tail u1 _ ty1 h1 f1c
      · refine mjZ_y rfl rfl 2 _ _ _ _ ty1 ?_
        exact tail u1 _ ty1 h1 f1c
def spF (A : List AK) (w : List Int32) : Option (List AK) := match kyI A w with
  | none => none
  | some p => some (stlA A p (fun es => es.tail))
set_option maxRecDepth 100000 in
theorem r_set1 {σ : mjS} {ws : List (List Int32)} {ks : List KR} {l : List Int32} (h : Wd σ ws ks l) (ty : mjTY σ) (i1 : Nat) (hi : i1 < 128) (hi2 : i1 ∈ [66, 67, 68, 69, 77]) {x1 : Int32} (e1 : x1 = nI i1) {w v : List Int32} (h1 : ws[1]? = some w) (h2 : i1 = 66 → ws[2]? = some v) (hw2 : i1 = 67 → 2 ≤ ws.length) (hne : i1 = 77 → ∀ p a, kyI (strip ks) w = some p → (strip ks)[p]? = some a → a.2.2.2.2.2 ≠ []) (hs : l.length + 132 + sz ws ≤ 420000) :
    mjY mjPP (mjQQ Y) (d + 6) 124 0 (mjL0 4 [.ref 0, .int x1]) [] σ (cmdK σ ws ks l i1 (if i1 = 77 then spF (strip ks) w else none)) := by
  have hlen := (List.getElem?_eq_some_iff.mp h1).1
  have nn : ∀ c : Nat, c < 128 → ((¬ x1 = nI c) ↔ ¬ i1 = c) := fun c hc => by rw [e1, nI_eq (by omega) (by omega)]
  refine mjZ_y rfl rfl 3 _ _ _ _ ty ?_
  refine (And.intro (Nat.le_of_ble_eq_true rfl) (And.intro rfl (And.intro (Nat.le_of_ble_eq_true rfl) (And.intro (Nat.le_of_ble_eq_true rfl) (mjY_mono ty (fun q_ u1 ty1 h_ => ?_) (w_key h ty h1 (x := Int32.ofInt 1) rfl))))))
  obtain ⟨rfl, rfl⟩ := h_
  intro _
  refine mjZ_y rfl rfl 4 _ _ _ _ ty1 ?_
  refine (And.intro (Nat.le_of_ble_eq_true rfl) (And.intro (fun a => ?_) (fun a => ?_)))
  · have a := (nn 66 (by decide)).mp a
    refine mjZ_y rfl rfl 3 _ _ _ _ ty1 ?_
    refine And.intro (fun b => ?_) (fun b => ?_)
    · have b := (nn 67 (by decide)).mp b
      refine mjZ_y rfl rfl 3 _ _ _ _ ty1 ?_
      refine And.intro (fun c => ?_) (fun c => ?_)
      · have c := (nn 68 (by decide)).mp c
        refine mjZ_y rfl rfl 3 _ _ _ _ ty1 ?_
        refine And.intro (fun e => ?_) (fun e => ?_)
        · have e := (nn 69 (by decide)).mp e
          have h77 : i1 = 77 := by simp at hi2; omega
          rw [if_pos h77]
          subst h77
          refine mjZ_y rfl rfl 2 _ _ _ _ ty1 ?_
          refine And.intro (fun q => ?_) (fun q => ?_)
          · have q := (ky_ge h w).1.mp q
            obtain ⟨P, y, Q, g0, g1, g2, -⟩ := ky_some q
            have e2 : kyS ks w = nI y.1 := g2
            generalize kyS ks w = x2 at e2
            subst g0
            have ne : y.2.2.2.2.2.2 ≠ [] := fun z => hne rfl _ _ g1 strip_gt (by show y.2.2.2.2.2.2.map _ = []; rw [z]; rfl)
            obtain ⟨-, -, -, vk⟩ := W_tail h e2
            obtain ⟨z, R, hE, eH⟩ := W_first h e2 ne
            obtain ⟨hz, hh, ho⟩ := h.eid (y := z) (by rw [hE]; exact List.mem_cons_self)
            have zid := ho.1
            refine mjZ_y rfl rfl 5 _ _ _ _ ty1 ?_
            refine (And.intro rfl (And.intro rfl (And.intro vk (And.intro (Nat.le_of_ble_eq_true rfl) ?_))))
            generalize hx3 : u1.2.2.1 (mjHn 19) x2.toNatClampNeg = x3
            have e3 : x3 = nI z.1 := hx3.symm.trans eH
            have v3 : vp_in x3 10000 := by rw [e3]; exact vp_in_nI zid (by decide)
            refine mjZ_y rfl rfl 12 _ _ _ _ ty1 ?_
            refine (And.intro rfl (And.intro rfl (And.intro rfl (And.intro v3 (And.intro rfl (And.intro rfl (And.intro v3 (And.intro (Nat.le_of_ble_eq_true rfl) (And.intro rfl (And.intro (Nat.le_of_ble_eq_true rfl) (And.intro (Nat.le_of_ble_eq_true rfl) (mjY_mono ty1 (fun q_ u2 ty2 h_ => ?_) (w_wordR h ty1 ho.2.1 hh (by omega) e3)))))))))))))
            obtain ⟨rfl, h3, f3⟩ := h_
            intro _
            refine mjZ_y rfl rfl 4 _ _ _ _ ty2 ?_
            refine (And.intro (Nat.le_of_ble_eq_true rfl) (And.intro rfl (And.intro (Nat.le_of_ble_eq_true rfl) (And.intro (Nat.le_of_ble_eq_true rfl) (mjY_mono ty2 (fun q_ u3 ty3 h_ => ?_) (w_unlink h3 ty2 (E1 := []) (E2 := R) hE e2 e3))))))
            obtain ⟨rfl, h4, f4⟩ := h_
            intro _
            have h4 : Wd u3 ws (P ++ withE y R :: Q) l := h4
            have es : st1 (withE y R) = esF (fun es => es.tail) (st1 y) := st1_with (by rw [hE]; rfl)
            have eo : spF (strip (P ++ y :: Q)) w = some (stlA (strip (P ++ y :: Q)) P.length (fun es => es.tail)) := by unfold spF; rw [g1]
            rw [eo]
            have hl4 := W_len h4
            refine mjZ_y rfl rfl 3 _ _ _ _ ty3 ?_
            refine (And.intro (Nat.le_of_ble_eq_true rfl) (And.intro rfl (And.intro (Nat.le_of_ble_eq_true rfl) (And.intro (Nat.le_of_ble_eq_true rfl) (mjY_mono ty3 (fun q_ u4 ty4 h_ => ?_) (w_settle h4 ty3 (show x2 = nI (withE y R).1 from e2) (by omega)))))))
            obtain ⟨rfl, f5, h5⟩ := h_
            intro _
            have fb := (f3.c.tr f4.k).tr f5.k1
            rcases h5 with ⟨t, h5⟩ | ⟨t, h5⟩
            · refine mjZ_y rfl rfl 3 _ _ _ _ ty4 ?_
              refine (And.intro (Nat.le_of_ble_eq_true rfl) (And.intro rfl (And.intro (Nat.le_of_ble_eq_true rfl) (And.intro (Nat.le_of_ble_eq_true rfl) (mjY_mono ty4 (fun q_ u5 ty5 h_ => ?_) (w_noteAll h5 ty4 (by omega) 77 rfl (by decide) hs))))))
              obtain ⟨rfl, h6, f6⟩ := h_
              intro _
              refine mjZ_y rfl rfl 1 _ _ _ _ ty5 ?_
              refine And.intro rfl (And.intro rfl ?_)
              rw [ntA_fr fb] at h6
              exact ⟨rfl, fb.tr f6.n, _, h6, stl_nil es t⟩
            · refine mjZ_y rfl rfl 3 _ _ _ _ ty4 ?_
              refine (And.intro (Nat.le_of_ble_eq_true rfl) (And.intro rfl (And.intro (Nat.le_of_ble_eq_true rfl) (And.intro (Nat.le_of_ble_eq_true rfl) (mjY_mono ty4 (fun q_ u5 ty5 h_ => ?_) (w_noteAll h5 ty4 (by omega) 77 rfl (by decide) hs))))))
              obtain ⟨rfl, h6, f6⟩ := h_
              intro _
              refine mjZ_y rfl rfl 1 _ _ _ _ ty5 ?_
              refine And.intro rfl (And.intro rfl ?_)
              rw [ntA_fr fb] at h6
              exact ⟨rfl, fb.tr f6.n, _, h6, stl_cons es t⟩
          · have q : kyI (strip ks) w = none := Decidable.of_not_not (fun z => q ((ky_ge h w).1.mpr z))
            have eo : spF (strip ks) w = none := by unfold spF; rw [q]
            rw [eo]
            refine mjZ_y rfl rfl 2 _ _ _ _ ty1 ?_
            refine (And.intro (Nat.le_of_ble_eq_true rfl) (And.intro rfl (And.intro (Nat.le_of_ble_eq_true rfl) (And.intro (Nat.le_of_ble_eq_true rfl) (mjY_mono ty1 (fun q_ u2 ty2 h_ => ?_) (w_nil h ty1))))))
            obtain ⟨rfl, h3, f3⟩ := h_
            intro _
            refine mjZ_y rfl rfl 2 _ _ _ _ ty2 ?_
            refine And.intro rfl (And.intro rfl ?_)
            exact ⟨rfl, f3.c, ks, h3, rfl⟩
        · have e : i1 = 69 := Decidable.of_not_not (fun z => e ((nn 69 (by decide)).mpr z))
          rw [if_neg (by omega)]
          refine mjZ_y rfl rfl 4 _ _ _ _ ty1 ?_
          refine (And.intro (Nat.le_of_ble_eq_true rfl) (And.intro rfl (And.intro (Nat.le_of_ble_eq_true rfl) (And.intro (Nat.le_of_ble_eq_true rfl) (mjY_mono ty1 (fun q_ u2 ty2 h_ => ?_) (w_many h ty1 (w := w) rfl))))))
          obtain ⟨rfl, rfl⟩ := h_
          intro _
          refine mjZ_y rfl rfl 1 _ _ _ _ ty1 ?_
          refine (And.intro (Nat.le_of_ble_eq_true rfl) (And.intro rfl (And.intro (Nat.le_of_ble_eq_true rfl) (And.intro (Nat.le_of_ble_eq_true rfl) (mjY_mono ty1 (fun q_ u3 ty3 h_ => ?_) (w_row h ty1 _))))))
          obtain ⟨rfl, h3, f3⟩ := h_
          intro _
          refine mjZ_y rfl rfl 2 _ _ _ _ ty3 ?_
          refine And.intro (fun q => ?_) (fun q => ?_)
          · have q := (ky_ge h w).1.mp q
            obtain ⟨P, y, Q, g0, g1, g2, -⟩ := ky_some q
            have e2 : kyS ks w = nI y.1 := g2
            generalize kyS ks w = x2 at e2
            subst g0
            obtain ⟨-, kHd, -, vk⟩ := W_tail h3 e2
            refine mjZ_y rfl rfl 5 _ _ _ _ ty3 ?_
            refine (And.intro rfl (And.intro rfl (And.intro vk (And.intro (Nat.le_of_ble_eq_true rfl) ?_))))
            exact c_sm_loop _ x1 x2 y.2.2.2.2.2.2 [] u3 _ rfl kHd ty3 h3 (fun u fu hu => ⟨rfl, f3.c.tr fu, _, hu, rfl⟩)
          · refine mjZ_y rfl rfl 1 _ _ _ _ ty3 ?_
            refine And.intro rfl (And.intro rfl ?_)
            exact ⟨rfl, f3.c, ks, h3, rfl⟩
      · have c : i1 = 68 := Decidable.of_not_not (fun z => c ((nn 68 (by decide)).mpr z))
        rw [if_neg (by omega)]
        refine mjZ_y rfl rfl 4 _ _ _ _ ty1 ?_
        refine (And.intro (Nat.le_of_ble_eq_true rfl) (And.intro rfl (And.intro (Nat.le_of_ble_eq_true rfl) (And.intro (Nat.le_of_ble_eq_true rfl) (mjY_mono ty1 (fun q_ u2 ty2 h_ => ?_) (w_many h ty1 (w := w) rfl))))))
        obtain ⟨rfl, rfl⟩ := h_
        intro _
        refine mjZ_y rfl rfl 2 _ _ _ _ ty1 ?_
        refine (And.intro (Nat.le_of_ble_eq_true rfl) (And.intro rfl (And.intro (Nat.le_of_ble_eq_true rfl) (And.intro (Nat.le_of_ble_eq_true rfl) (mjY_mono ty1 (fun q_ u3 ty3 h_ => ?_) (w_number h ty1 _))))))
        obtain ⟨rfl, h3, f3⟩ := h_
        intro _
        refine mjZ_y rfl rfl 2 _ _ _ _ ty3 ?_
        refine And.intro rfl (And.intro rfl ?_)
        exact ⟨rfl, f3.c, ks, h3, rfl⟩
    · have b : i1 = 67 := Decidable.of_not_not (fun z => b ((nn 67 (by decide)).mpr z))
      rw [if_neg (by omega)]
      refine mjZ_y rfl rfl 6 _ _ _ _ ty1 ?_
      refine (And.intro rfl (And.intro (Nat.le_of_ble_eq_true rfl) (And.intro rfl (And.intro (Nat.le_of_ble_eq_true rfl) (And.intro (Nat.le_of_ble_eq_true rfl) (mjY_mono ty1 (fun q_ u2 ty2 h_ => ?_) (w_row h ty1 _)))))))
      obtain ⟨rfl, h3, f3⟩ := h_
      intro _
      refine mjZ_y rfl rfl 2 _ _ _ _ ty2 ?_
      refine (And.intro (Nat.le_of_ble_eq_true rfl) ?_)
      exact c_sis_loop _ x1 _ rfl (ws.length - 2) 2 u2 _ (by have := hw2 b; omega) rfl ty2 h3 (fun u fu hu => ⟨rfl, f3.c.tr fu, _, hu, rfl⟩)
  · have a : i1 = 66 := Decidable.of_not_not (fun z => a ((nn 66 (by decide)).mpr z))
    rw [if_neg (by omega)]
    have tail : ∀ (u : mjS) (z : Int64), mjTY u → Wd u ws ks l → Fr cF cH u1 u → mjY mjPP (mjQQ Y) (d + 6) 124 16 [some (.ref 0), some (.int x1), some (.int (kyS ks w)), none] [.long z, .ref 0] u (cmdK u1 ws ks l i1 none) := by
      intro u z tu hu fu
      refine mjZ_y rfl rfl 1 _ _ _ _ tu ?_
      refine (And.intro (Nat.le_of_ble_eq_true rfl) (And.intro rfl (And.intro (Nat.le_of_ble_eq_true rfl) (And.intro (Nat.le_of_ble_eq_true rfl) (mjY_mono tu (fun q_ u2 ty2 h_ => ?_) (w_number hu tu _))))))
      obtain ⟨rfl, h3, f3⟩ := h_
      intro _
      refine mjZ_y rfl rfl 2 _ _ _ _ ty2 ?_
      refine And.intro rfl (And.intro rfl ?_)
      exact ⟨rfl, fu.tr f3.c, ks, h3, rfl⟩
    refine mjZ_y rfl rfl 5 _ _ _ _ ty1 ?_
    refine (And.intro (Nat.le_of_ble_eq_true rfl) (And.intro rfl (And.intro (Nat.le_of_ble_eq_true rfl) (And.intro (Nat.le_of_ble_eq_true rfl) (mjY_mono ty1 (fun q_ u2 ty2 h_ => ?_) (w_member h ty1 (w := w) (h2 a) rfl (x2 := Int32.ofInt 2) rfl))))))
    obtain ⟨r, rfl, f3, h3, hr⟩ := h_
    intro _
    have f3c : Fr cF cH u1 u2 := f3.up (by decide) (by decide)
    refine mjZ_y rfl rfl 1 _ _ _ _ ty2 ?_
    refine And.intro (fun c => ?_) (fun c => ?_)
    · refine mjZ_y rfl rfl 1 _ _ _ _ ty2 ?_
      exact tail u2 _ ty2 h3 f3c
    · refine mjZ_y rfl rfl 2 _ _ _ _ ty2 ?_
      exact tail u2 _ ty2 h3 f3c
end SET2
