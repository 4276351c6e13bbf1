/-! isSort and sortsFit. -/
section SORTS
variable {Y : Nat → MethodName × ByteArray} {d : Nat}
def soT (A : List AK) (w : List Int32) (s : Int32) : Bool := match kyI A w with
  | none => true
  | some p => (match A[p]? with
    | some a => decide (a.2.1 = s)
    | none => true)
def soW (A : List AK) (ws : List (List Int32)) (j : Nat) (s : Int32) : Bool := match ws[j]? with
  | some w => soT A w s
  | none => true
theorem soW_at {A : List AK} {ws : List (List Int32)} {j : Nat} {s : Int32} {w : List Int32} (h : ws[j]? = some w) : soW A ws j s = soT A w s := by unfold soW; rw [h]
set_option maxRecDepth 100000 in
theorem c_isSort {σ : mjS} {ws : List (List Int32)} {ks : List KR} {l : List Int32} (h : Wd σ ws ks l) (ty : mjTY σ) {i : Nat} {w : List Int32} (hw : ws[i]? = some w) {x : Int32} (ex : x = nI i) (s : Int32) : mjY mjPP (mjQQ Y) (d + 3) 73 0 (mjL0 4 [.ref 0, .int x, .int s]) [] σ (fun r u => r = some (.int (bI (soT (strip ks) w s))) ∧ u = σ) := by
  refine mjZ_y rfl rfl 3 _ _ _ _ ty ?_
  refine (And.intro (Nat.le_of_ble_eq_true rfl) (And.intro rfl (And.intro (Nat.le_of_ble_eq_true rfl) (And.intro (Nat.le_of_ble_eq_true rfl) (mjY_mono ty (fun q_ u1 ty1 h_ => ?_) (w_key h ty hw ex))))))
  obtain ⟨rfl, rfl⟩ := h_
  intro _
  rcases ky_cases ks w with ⟨g1, g2⟩ | ⟨P, y, Q, g0, g1, g2, -⟩
  · have e : soT (strip ks) w s = true := by unfold soT; rw [g1]
    rw [e]
    refine mjZ_y rfl rfl 3 _ _ _ _ ty1 ?_
    refine (And.intro (Nat.le_of_ble_eq_true rfl) (And.intro (fun c => ?_) (fun c => ?_)))
    · refine mjZ_y rfl rfl 3 _ _ _ _ ty1 ?_
      refine And.intro rfl (And.intro (Or.inr ⟨rfl, Or.inr rfl⟩) ?_)
      exact ⟨rfl, rfl⟩
    · exact absurd (show kyS ks w < 0 from lt_m1 g2) c
  · subst g0
    obtain ⟨hs, hh, hk⟩ := h.kok (List.mem_append_right P (List.mem_cons_self (a := y) (l := Q)))
    have hid := hk.1
    have e : soT (strip (P ++ y :: Q)) w s = decide (y.2.2.1 = s) := by
      unfold soT; rw [g1]
      show (match (strip (P ++ y :: Q))[P.length]? with | some a => decide (a.2.1 = s) | none => true) = _
      rw [strip_gt]; rfl
    rw [e]
    have g2 : kyS (P ++ y :: Q) w = nI y.1 := g2
    generalize kyS (P ++ y :: Q) w = x3 at g2
    have v3 : vp_in x3 4700 := by rw [g2]; exact vp_in_nI hid (by decide)
    have es : u1.2.2.1 r_kSort x3.toNatClampNeg = y.2.2.1 := by rw [g2, nI_clamp (by omega)]; exact hk.2.2.1
    refine mjZ_y rfl rfl 3 _ _ _ _ ty1 ?_
    refine (And.intro (Nat.le_of_ble_eq_true rfl) (And.intro (fun c => ?_) (fun c => ?_)))
    · exact absurd (show x3 < 0 from c) (lt_nI (by omega) g2)
    · refine mjZ_y rfl rfl 6 _ _ _ _ ty1 ?_
      refine (And.intro rfl (And.intro rfl (And.intro v3 (And.intro (fun b => ?_) (fun b => ?_)))))
      · have b : ¬ y.2.2.1 = s := fun z => b (es.trans z)
        rw [decide_eq_false b]
        refine mjZ_y rfl rfl 2 _ _ _ _ ty1 ?_
        refine And.intro rfl (And.intro (Or.inr ⟨rfl, Or.inl rfl⟩) ?_)
        exact ⟨rfl, rfl⟩
      · have b : y.2.2.1 = s := es.symm.trans (Decidable.of_not_not b)
        rw [decide_eq_true b]
        refine mjZ_y rfl rfl 3 _ _ _ _ ty1 ?_
        refine And.intro rfl (And.intro (Or.inr ⟨rfl, Or.inr rfl⟩) ?_)
        exact ⟨rfl, rfl⟩
def soL (A : List AK) : List (List Int32) → Bool
  | [] => true
  | w :: r => soT A w 3 && soL A r
set_option maxRecDepth 100000 in
theorem c_so_loop {σ : mjS} {ws : List (List Int32)} {ks : List KR} {l : List Int32} (h : Wd σ ws ks l) (ty : mjTY σ) (x1 x2 : Int32) : ∀ (m a : Nat) (x3 : Int32), a + m = ws.length → x3 = nI a → mjY mjPP (mjQQ Y) (d + 4) 74 106 [some (.ref 0), some (.int x1), some (.int x2), some (.int x3)] [] σ (fun r u => r = some (.int (bI (soL (strip ks) (ws.drop a)))) ∧ u = σ) := by
  have h1024 := h.2.1.2.1
  intro m
  induction m with
  | zero =>
    intro a x3 ha e3
    rw [List.drop_of_length_le (by omega)]
    refine mjZ_y rfl rfl 4 _ _ _ _ ty ?_
    refine (And.intro rfl (And.intro (fun q => ?_) (fun q => ?_)))
    · refine mjZ_y rfl rfl 2 _ _ _ _ ty ?_
      refine And.intro rfl (And.intro (Or.inr ⟨rfl, Or.inr rfl⟩) ?_)
      exact ⟨rfl, rfl⟩
    · exact absurd (show σ.1 f_words ≤ x3 by rw [h.2.1.1, e3]; exact nI_le (by omega) (by omega)) q
  | succ m ih =>
    intro a x3 ha e3
    obtain ⟨w, hw, ed⟩ := drop1 ha
    rw [ed, show soL (strip ks) (w :: ws.drop (a + 1)) = (soT (strip ks) w 3 && soL (strip ks) (ws.drop (a + 1))) from rfl]
    refine mjZ_y rfl rfl 4 _ _ _ _ ty ?_
    refine (And.intro rfl (And.intro (fun q => ?_) (fun q => ?_)))
    · exact absurd (show σ.1 f_words ≤ x3 from q) (by rw [h.2.1.1, e3]; exact nI_ge (by omega) (by omega))
    · refine mjZ_y rfl rfl 4 _ _ _ _ ty ?_
      refine (And.intro (Nat.le_of_ble_eq_true rfl) (And.intro rfl (And.intro (Nat.le_of_ble_eq_true rfl) (And.intro (Nat.le_of_ble_eq_true rfl) (mjY_mono ty (fun q_ u1 ty1 h_ => ?_) (c_isSort h ty hw e3 3))))))
      obtain ⟨rfl, rfl⟩ := h_
      intro _
      cases hb : soT (strip ks) w 3 with
      | true =>
        rw [Bool.true_and]
        refine mjZ_y rfl rfl 1 _ _ _ _ ty1 ?_
        refine And.intro (fun c => ?_) (fun c => ?_)
        · refine mjZ_y rfl rfl 2 _ _ _ _ ty1 ?_
          exact ih (a + 1) _ (by omega) (by rw [e3]; exact nI_1 a)
        · exact absurd (show ¬ (1 : Int32) = 0 by decide) c
      | false =>
        rw [Bool.false_and]
        refine mjZ_y rfl rfl 1 _ _ _ _ ty1 ?_
        refine And.intro (fun c => ?_) (fun c => ?_)
        · exact absurd rfl c
        · refine mjZ_y rfl rfl 2 _ _ _ _ ty1 ?_
          refine And.intro rfl (And.intro (Or.inr ⟨rfl, Or.inl rfl⟩) ?_)
          exact ⟨rfl, rfl⟩
section
variable (i : Nat) (get : Int32) (ws : List (List Int32)) (A : List AK)
def sf8 : Bool := if 78 ≤ i ∧ i ≤ 93 then soW A ws 1 4 else true
def sf7 : Bool := if (64 ≤ i ∧ i ≤ 69) ∨ i = 77 then soW A ws 1 3 else sf8 i ws A
def sf6 : Bool := if (71 ≤ i ∧ i ≤ 73) ∨ (74 ≤ i ∧ i ≤ 76) then soL A (ws.drop (if i < 74 then 1 else 2)) else sf7 i ws A
def sf5 : Bool := if i = 70 then soW A ws 1 3 && soW A ws 2 3 else sf6 i ws A
def sf4 : Bool := if 52 ≤ i ∧ i ≤ 63 then soW A ws 1 2 else sf5 i ws A
def sf3 : Bool := if 37 ≤ i ∧ i ≤ 49 then soW A ws 1 1 else sf4 i ws A
def sf2 : Bool := if i = 50 ∨ i = 51 then soW A ws 1 1 && soW A ws 2 1 else sf3 i ws A
def sfB : Bool := if i = 1 ∨ i = 3 ∨ i = 4 ∨ (11 ≤ i ∧ i ≤ 21) ∨ (i = 2 ∧ ¬ get = 0) then soW A ws 1 0 else sf2 i ws A
end
def sfK (σ : mjS) (b : Bool) : mjK := fun r u => r = some (.int (bI b)) ∧ u = σ
set_option maxRecDepth 100000 in
theorem c_sortsFit {σ : mjS} {ws : List (List Int32)} {ks : List KR} {l : List Int32} (h : Wd σ ws ks l) (ty : mjTY σ) (i1 : Nat) (hi : i1 < 128) {x : Int32} (ex : x = nI i1) (hw : (i1 < 22 ∨ (36 < i1 ∧ i1 < 94)) → 2 ≤ ws.length) (hw2 : (i1 = 50 ∨ i1 = 51 ∨ i1 = 70) → 3 ≤ ws.length) (hw3 : (74 ≤ i1 ∧ i1 ≤ 76) → 2 ≤ ws.length) : mjY mjPP (mjQQ Y) (d + 4) 74 0 (mjL0 4 [.ref 0, .int x]) [] σ (sfK σ (sfB i1 (σ.1 f_optGet) ws (strip ks))) := by
  have E : ∀ c : Nat, c < 128 → ((x = nI c) ↔ i1 = c) := fun c hc => by rw [ex, nI_eq (by omega) (by omega)]
  have L : ∀ c : Nat, c < 128 → ((x < nI c) ↔ i1 < c) := fun c hc => by
    rw [ex]; exact ⟨fun z => Nat.lt_of_not_le (fun y => Int32.not_lt.mpr (nI_le y (by omega)) z), fun z => Int32.not_le.mp (nI_ge z (by omega))⟩
  have G : ∀ c : Nat, c < 128 → ((nI c < x) ↔ c < i1) := fun c hc => by
    rw [ex]; exact ⟨fun z => Nat.lt_of_not_le (fun y => Int32.not_lt.mpr (nI_le y (by omega)) z), fun z => Int32.not_le.mp (nI_ge z (by omega))⟩
  have LE : ∀ c : Nat, c < 128 → ((x ≤ nI c) ↔ i1 ≤ c) := fun c hc => by rw [ex]; exact nI_leI (by omega) (by omega)
  have one : ∀ (p : Nat) (s : Int32) (b : Bool), 2 ≤ ws.length → b = soW (strip ks) ws 1 s → mjY mjPP (mjQQ Y) (d + 3) 73 0 (mjL0 4 [.ref 0, .int (Int32.ofInt 1), .int s]) [] σ (fun r u => r = some (.int (bI b)) ∧ u = σ) := fun p s b hl e => by
    have g1 : ws[1]? = some ws[1] := List.getElem?_eq_getElem (by omega)
    rw [e, soW_at g1]; exact c_isSort h ty g1 rfl s
  have two : ∀ (p : Nat) (s : Int32) (b : Bool), 3 ≤ ws.length → b = soW (strip ks) ws 2 s → mjY mjPP (mjQQ Y) (d + 3) 73 0 (mjL0 4 [.ref 0, .int (Int32.ofInt 2), .int s]) [] σ (fun r u => r = some (.int (bI b)) ∧ u = σ) := fun p s b hl e => by
    have g1 : ws[2]? = some ws[2] := List.getElem?_eq_getElem (by omega)
    rw [e, soW_at g1]; exact c_isSort h ty g1 rfl s
  have s135 : mjY mjPP (mjQQ Y) (d + 4) 74 135 [some (.ref 0), some (.int x), none, none] [] σ (sfK σ (sf8 i1 ws (strip ks))) := by
    have no : ¬ (78 ≤ i1 ∧ i1 ≤ 93) → mjY mjPP (mjQQ Y) (d + 4) 74 146 [some (.ref 0), some (.int x), none, none] [] σ (sfK σ (sf8 i1 ws (strip ks))) := by
      intro n
      rw [show sf8 i1 ws (strip ks) = true from if_neg n]
      refine mjZ_y rfl rfl 2 _ _ _ _ ty ?_
      refine And.intro rfl (And.intro (Or.inr ⟨rfl, Or.inr rfl⟩) ?_)
      exact ⟨rfl, rfl⟩
    refine mjZ_y rfl rfl 3 _ _ _ _ ty ?_
    refine And.intro (fun c => ?_) (fun c => ?_)
    · exact no (fun z => by have := (L 78 (by decide)).mp c; omega)
    · refine mjZ_y rfl rfl 3 _ _ _ _ ty ?_
      refine And.intro (fun b => ?_) (fun b => ?_)
      · exact no (fun z => by have := (G 93 (by decide)).mp b; omega)
      · have c : 78 ≤ i1 := Nat.le_of_not_lt (fun z => c ((L 78 (by decide)).mpr z))
        have b : i1 ≤ 93 := Nat.le_of_not_lt (fun z => b ((G 93 (by decide)).mpr z))
        refine mjZ_y rfl rfl 4 _ _ _ _ ty ?_
        refine (And.intro (Nat.le_of_ble_eq_true rfl) (And.intro rfl (And.intro (Nat.le_of_ble_eq_true rfl) (And.intro (Nat.le_of_ble_eq_true rfl) (mjY_mono ty (fun q_ u1 ty1 h_ => ?_) (one 1 4 (sf8 i1 ws (strip ks)) (hw (by omega)) (if_pos ⟨c, b⟩)))))))
        obtain ⟨rfl, rfl⟩ := h_
        intro _
        refine mjZ_y rfl rfl 1 _ _ _ _ ty1 ?_
        refine And.intro rfl (And.intro (Or.inr ⟨rfl, bI_01 _⟩) ?_)
        exact ⟨rfl, rfl⟩
  have s121 : mjY mjPP (mjQQ Y) (d + 4) 74 121 [some (.ref 0), some (.int x), none, none] [] σ (sfK σ (sf7 i1 ws (strip ks))) := by
    have yes : ((64 ≤ i1 ∧ i1 ≤ 69) ∨ i1 = 77) → mjY mjPP (mjQQ Y) (d + 4) 74 130 [some (.ref 0), some (.int x), none, none] [] σ (sfK σ (sf7 i1 ws (strip ks))) := by
      intro y
      refine mjZ_y rfl rfl 4 _ _ _ _ ty ?_
      refine (And.intro (Nat.le_of_ble_eq_true rfl) (And.intro rfl (And.intro (Nat.le_of_ble_eq_true rfl) (And.intro (Nat.le_of_ble_eq_true rfl) (mjY_mono ty (fun q_ u1 ty1 h_ => ?_) (one 1 3 (sf7 i1 ws (strip ks)) (hw (by omega)) (if_pos y)))))))
      obtain ⟨rfl, rfl⟩ := h_
      intro _
      refine mjZ_y rfl rfl 1 _ _ _ _ ty1 ?_
      refine And.intro rfl (And.intro (Or.inr ⟨rfl, bI_01 _⟩) ?_)
      exact ⟨rfl, rfl⟩
    have s127 : ¬ (64 ≤ i1 ∧ i1 ≤ 69) → mjY mjPP (mjQQ Y) (d + 4) 74 127 [some (.ref 0), some (.int x), none, none] [] σ (sfK σ (sf7 i1 ws (strip ks))) := by
      intro n
      refine mjZ_y rfl rfl 3 _ _ _ _ ty ?_
      refine And.intro (fun c => ?_) (fun c => ?_)
      · rw [show sf7 i1 ws (strip ks) = sf8 i1 ws (strip ks) from if_neg (fun z => z.elim n (fun z => c ((E 77 (by decide)).mpr z)))]
        exact s135
      · exact yes (Or.inr ((E 77 (by decide)).mp (Decidable.of_not_not c)))
    refine mjZ_y rfl rfl 3 _ _ _ _ ty ?_
    refine And.intro (fun c => ?_) (fun c => ?_)
    · exact s127 (fun z => by have := (L 64 (by decide)).mp c; omega)
    · have c : 64 ≤ i1 := Nat.le_of_not_lt (fun z => c ((L 64 (by decide)).mpr z))
      refine mjZ_y rfl rfl 3 _ _ _ _ ty ?_
      refine And.intro (fun b => ?_) (fun b => ?_)
      · exact yes (Or.inl ⟨c, (LE 69 (by decide)).mp b⟩)
      · exact s127 (fun z => b ((LE 69 (by decide)).mpr z.2))
  have s85 : mjY mjPP (mjQQ Y) (d + 4) 74 85 [some (.ref 0), some (.int x), none, none] [] σ (sfK σ (sf6 i1 ws (strip ks))) := by
    have yes : ((71 ≤ i1 ∧ i1 ≤ 73) ∨ (74 ≤ i1 ∧ i1 ≤ 76)) → mjY mjPP (mjQQ Y) (d + 4) 74 97 [some (.ref 0), some (.int x), none, none] [] σ (sfK σ (sf6 i1 ws (strip ks))) := by
      intro y
      rw [show sf6 i1 ws (strip ks) = soL (strip ks) (ws.drop (if i1 < 74 then 1 else 2)) from if_pos y]
      have hl : 2 ≤ ws.length := hw (by omega)
      refine mjZ_y rfl rfl 5 _ _ _ _ ty ?_
      refine (And.intro (Nat.le_of_ble_eq_true rfl) (And.intro (fun c => ?_) (fun c => ?_)))
      · rw [if_pos ((L 74 (by decide)).mp c)]
        refine mjZ_y rfl rfl 2 _ _ _ _ ty ?_
        refine (And.intro (Nat.le_of_ble_eq_true rfl) ?_)
        exact c_so_loop h ty x _ (ws.length - 1) 1 _ (by omega) rfl
      · rw [if_neg (fun z => c ((L 74 (by decide)).mpr z))]
        refine mjZ_y rfl rfl 4 _ _ _ _ ty ?_
        refine (And.intro (Nat.le_of_ble_eq_true rfl) (And.intro (Nat.le_of_ble_eq_true rfl) ?_))
        exact c_so_loop h ty x _ (ws.length - 2) 2 _ (by omega) rfl
    have s91 : ¬ (71 ≤ i1 ∧ i1 ≤ 73) → mjY mjPP (mjQQ Y) (d + 4) 74 91 [some (.ref 0), some (.int x), none, none] [] σ (sfK σ (sf6 i1 ws (strip ks))) := by
      intro n
      have no : ¬ (74 ≤ i1 ∧ i1 ≤ 76) → mjY mjPP (mjQQ Y) (d + 4) 74 121 [some (.ref 0), some (.int x), none, none] [] σ (sfK σ (sf6 i1 ws (strip ks))) := by
        intro n2
        rw [show sf6 i1 ws (strip ks) = sf7 i1 ws (strip ks) from if_neg (fun z => z.elim n n2)]
        exact s121
      refine mjZ_y rfl rfl 3 _ _ _ _ ty ?_
      refine And.intro (fun c => ?_) (fun c => ?_)
      · exact no (fun z => by have := (L 74 (by decide)).mp c; omega)
      · refine mjZ_y rfl rfl 3 _ _ _ _ ty ?_
        refine And.intro (fun b => ?_) (fun b => ?_)
        · exact no (fun z => by have := (G 76 (by decide)).mp b; omega)
        · exact yes (Or.inr ⟨Nat.le_of_not_lt (fun z => c ((L 74 (by decide)).mpr z)), Nat.le_of_not_lt (fun z => b ((G 76 (by decide)).mpr z))⟩)
    refine mjZ_y rfl rfl 3 _ _ _ _ ty ?_
    refine And.intro (fun c => ?_) (fun c => ?_)
    · exact s91 (fun z => by have := (L 71 (by decide)).mp c; omega)
    · refine mjZ_y rfl rfl 3 _ _ _ _ ty ?_
      refine And.intro (fun b => ?_) (fun b => ?_)
      · exact yes (Or.inl ⟨Nat.le_of_not_lt (fun z => c ((L 71 (by decide)).mpr z)), (LE 73 (by decide)).mp b⟩)
      · exact s91 (fun z => b ((LE 73 (by decide)).mpr z.2))
  have s68 : mjY mjPP (mjQQ Y) (d + 4) 74 68 [some (.ref 0), some (.int x), none, none] [] σ (sfK σ (sf5 i1 ws (strip ks))) := by
    refine mjZ_y rfl rfl 3 _ _ _ _ ty ?_
    refine And.intro (fun c => ?_) (fun c => ?_)
    · rw [show sf5 i1 ws (strip ks) = sf6 i1 ws (strip ks) from if_neg (fun z => c ((E 70 (by decide)).mpr z))]
      exact s85
    · have c : i1 = 70 := (E 70 (by decide)).mp (Decidable.of_not_not c)
      rw [show sf5 i1 ws (strip ks) = (soW (strip ks) ws 1 3 && soW (strip ks) ws 2 3) from if_pos c]
      refine mjZ_y rfl rfl 4 _ _ _ _ ty ?_
      refine (And.intro (Nat.le_of_ble_eq_true rfl) (And.intro rfl (And.intro (Nat.le_of_ble_eq_true rfl) (And.intro (Nat.le_of_ble_eq_true rfl) (mjY_mono ty (fun q_ u1 ty1 h_ => ?_) (one 1 3 _ (hw (by omega)) rfl))))))
      obtain ⟨rfl, rfl⟩ := h_
      intro _
      refine mjZ_y rfl rfl 1 _ _ _ _ ty1 ?_
      refine And.intro (fun b => ?_) (fun b => ?_)
      · rw [bI_0.mp b, Bool.false_and]
        refine mjZ_y rfl rfl 2 _ _ _ _ ty1 ?_
        refine And.intro rfl (And.intro (Or.inr ⟨rfl, Or.inl rfl⟩) ?_)
        exact ⟨rfl, rfl⟩
      · have b : soW (strip ks) ws 1 3 = true := Decidable.of_not_not (fun z => b (bI_0.mpr (Bool.eq_false_iff.mpr z)))
        rw [b, Bool.true_and]
        refine mjZ_y rfl rfl 4 _ _ _ _ ty1 ?_
        refine (And.intro (Nat.le_of_ble_eq_true rfl) (And.intro rfl (And.intro (Nat.le_of_ble_eq_true rfl) (And.intro (Nat.le_of_ble_eq_true rfl) (mjY_mono ty1 (fun q_ u2 ty2 h_ => ?_) (two 1 3 _ (hw2 (by omega)) rfl))))))
        obtain ⟨rfl, rfl⟩ := h_
        intro _
        refine mjZ_y rfl rfl 1 _ _ _ _ ty2 ?_
        refine And.intro (fun k => ?_) (fun k => ?_)
        · rw [bI_0.mp k]
          refine mjZ_y rfl rfl 2 _ _ _ _ ty2 ?_
          refine And.intro rfl (And.intro (Or.inr ⟨rfl, Or.inl rfl⟩) ?_)
          exact ⟨rfl, rfl⟩
        · have k : soW (strip ks) ws 2 3 = true := Decidable.of_not_not (fun z => k (bI_0.mpr (Bool.eq_false_iff.mpr z)))
          rw [k]
          refine mjZ_y rfl rfl 3 _ _ _ _ ty2 ?_
          refine And.intro rfl (And.intro (Or.inr ⟨rfl, Or.inr rfl⟩) ?_)
          exact ⟨rfl, rfl⟩
  have s57 : mjY mjPP (mjQQ Y) (d + 4) 74 57 [some (.ref 0), some (.int x), none, none] [] σ (sfK σ (sf4 i1 ws (strip ks))) := by
    have no : ¬ (52 ≤ i1 ∧ i1 ≤ 63) → mjY mjPP (mjQQ Y) (d + 4) 74 68 [some (.ref 0), some (.int x), none, none] [] σ (sfK σ (sf4 i1 ws (strip ks))) := by
      intro n
      rw [show sf4 i1 ws (strip ks) = sf5 i1 ws (strip ks) from if_neg n]
      exact s68
    refine mjZ_y rfl rfl 3 _ _ _ _ ty ?_
    refine And.intro (fun c => ?_) (fun c => ?_)
    · exact no (fun z => by have := (L 52 (by decide)).mp c; omega)
    · refine mjZ_y rfl rfl 3 _ _ _ _ ty ?_
      refine And.intro (fun b => ?_) (fun b => ?_)
      · exact no (fun z => by have := (G 63 (by decide)).mp b; omega)
      · have c : 52 ≤ i1 := Nat.le_of_not_lt (fun z => c ((L 52 (by decide)).mpr z))
        have b : i1 ≤ 63 := Nat.le_of_not_lt (fun z => b ((G 63 (by decide)).mpr z))
        refine mjZ_y rfl rfl 4 _ _ _ _ ty ?_
        refine (And.intro (Nat.le_of_ble_eq_true rfl) (And.intro rfl (And.intro (Nat.le_of_ble_eq_true rfl) (And.intro (Nat.le_of_ble_eq_true rfl) (mjY_mono ty (fun q_ u1 ty1 h_ => ?_) (one 1 2 (sf4 i1 ws (strip ks)) (hw (by omega)) (if_pos ⟨c, b⟩)))))))
        obtain ⟨rfl, rfl⟩ := h_
        intro _
        refine mjZ_y rfl rfl 1 _ _ _ _ ty1 ?_
        refine And.intro rfl (And.intro (Or.inr ⟨rfl, bI_01 _⟩) ?_)
        exact ⟨rfl, rfl⟩
  have s46 : mjY mjPP (mjQQ Y) (d + 4) 74 46 [some (.ref 0), some (.int x), none, none] [] σ (sfK σ (sf3 i1 ws (strip ks))) := by
    have no : ¬ (37 ≤ i1 ∧ i1 ≤ 49) → mjY mjPP (mjQQ Y) (d + 4) 74 57 [some (.ref 0), some (.int x), none, none] [] σ (sfK σ (sf3 i1 ws (strip ks))) := by
      intro n
      rw [show sf3 i1 ws (strip ks) = sf4 i1 ws (strip ks) from if_neg n]
      exact s57
    refine mjZ_y rfl rfl 3 _ _ _ _ ty ?_
    refine And.intro (fun c => ?_) (fun c => ?_)
    · exact no (fun z => by have := (L 37 (by decide)).mp c; omega)
    · refine mjZ_y rfl rfl 3 _ _ _ _ ty ?_
      refine And.intro (fun b => ?_) (fun b => ?_)
      · exact no (fun z => by have := (G 49 (by decide)).mp b; omega)
      · have c : 37 ≤ i1 := Nat.le_of_not_lt (fun z => c ((L 37 (by decide)).mpr z))
        have b : i1 ≤ 49 := Nat.le_of_not_lt (fun z => b ((G 49 (by decide)).mpr z))
        refine mjZ_y rfl rfl 4 _ _ _ _ ty ?_
        refine (And.intro (Nat.le_of_ble_eq_true rfl) (And.intro rfl (And.intro (Nat.le_of_ble_eq_true rfl) (And.intro (Nat.le_of_ble_eq_true rfl) (mjY_mono ty (fun q_ u1 ty1 h_ => ?_) (one 1 1 (sf3 i1 ws (strip ks)) (hw (by omega)) (if_pos ⟨c, b⟩)))))))
        obtain ⟨rfl, rfl⟩ := h_
        intro _
        refine mjZ_y rfl rfl 1 _ _ _ _ ty1 ?_
        refine And.intro rfl (And.intro (Or.inr ⟨rfl, bI_01 _⟩) ?_)
        exact ⟨rfl, rfl⟩
  have s26 : mjY mjPP (mjQQ Y) (d + 4) 74 26 [some (.ref 0), some (.int x), none, none] [] σ (sfK σ (sf2 i1 ws (strip ks))) := by
    have yes : (i1 = 50 ∨ i1 = 51) → mjY mjPP (mjQQ Y) (d + 4) 74 32 [some (.ref 0), some (.int x), none, none] [] σ (sfK σ (sf2 i1 ws (strip ks))) := by
      intro c
      rw [show sf2 i1 ws (strip ks) = (soW (strip ks) ws 1 1 && soW (strip ks) ws 2 1) from if_pos c]
      refine mjZ_y rfl rfl 4 _ _ _ _ ty ?_
      refine (And.intro (Nat.le_of_ble_eq_true rfl) (And.intro rfl (And.intro (Nat.le_of_ble_eq_true rfl) (And.intro (Nat.le_of_ble_eq_true rfl) (mjY_mono ty (fun q_ u1 ty1 h_ => ?_) (one 1 1 _ (hw (by omega)) rfl))))))
      obtain ⟨rfl, rfl⟩ := h_
      intro _
      refine mjZ_y rfl rfl 1 _ _ _ _ ty1 ?_
      refine And.intro (fun b => ?_) (fun b => ?_)
      · rw [bI_0.mp b, Bool.false_and]
        refine mjZ_y rfl rfl 2 _ _ _ _ ty1 ?_
        refine And.intro rfl (And.intro (Or.inr ⟨rfl, Or.inl rfl⟩) ?_)
        exact ⟨rfl, rfl⟩
      · have b : soW (strip ks) ws 1 1 = true := Decidable.of_not_not (fun z => b (bI_0.mpr (Bool.eq_false_iff.mpr z)))
        rw [b, Bool.true_and]
        refine mjZ_y rfl rfl 4 _ _ _ _ ty1 ?_
        refine (And.intro (Nat.le_of_ble_eq_true rfl) (And.intro rfl (And.intro (Nat.le_of_ble_eq_true rfl) (And.intro (Nat.le_of_ble_eq_true rfl) (mjY_mono ty1 (fun q_ u2 ty2 h_ => ?_) (two 1 1 _ (hw2 (by omega)) rfl))))))
        obtain ⟨rfl, rfl⟩ := h_
        intro _
        refine mjZ_y rfl rfl 1 _ _ _ _ ty2 ?_
        refine And.intro (fun k => ?_) (fun k => ?_)
        · rw [bI_0.mp k]
          refine mjZ_y rfl rfl 2 _ _ _ _ ty2 ?_
          refine And.intro rfl (And.intro (Or.inr ⟨rfl, Or.inl rfl⟩) ?_)
          exact ⟨rfl, rfl⟩
        · have k : soW (strip ks) ws 2 1 = true := Decidable.of_not_not (fun z => k (bI_0.mpr (Bool.eq_false_iff.mpr z)))
          rw [k]
          refine mjZ_y rfl rfl 3 _ _ _ _ ty2 ?_
          refine And.intro rfl (And.intro (Or.inr ⟨rfl, Or.inr rfl⟩) ?_)
          exact ⟨rfl, rfl⟩
    refine mjZ_y rfl rfl 3 _ _ _ _ ty ?_
    refine And.intro (fun c => ?_) (fun c => ?_)
    · exact yes (Or.inl ((E 50 (by decide)).mp c))
    · refine mjZ_y rfl rfl 3 _ _ _ _ ty ?_
      refine And.intro (fun b => ?_) (fun b => ?_)
      · rw [show sf2 i1 ws (strip ks) = sf3 i1 ws (strip ks) from if_neg (fun z => z.elim (fun z => c ((E 50 (by decide)).mpr z)) (fun z => b ((E 51 (by decide)).mpr z)))]
        exact s46
      · exact yes (Or.inr ((E 51 (by decide)).mp (Decidable.of_not_not b)))
  have yes : (i1 = 1 ∨ i1 = 3 ∨ i1 = 4 ∨ (11 ≤ i1 ∧ i1 ≤ 21) ∨ (i1 = 2 ∧ ¬ σ.1 f_optGet = 0)) → mjY mjPP (mjQQ Y) (d + 4) 74 21 [some (.ref 0), some (.int x), none, none] [] σ (sfK σ (sfB i1 (σ.1 f_optGet) ws (strip ks))) := by
    intro y
    refine mjZ_y rfl rfl 4 _ _ _ _ ty ?_
    refine (And.intro (Nat.le_of_ble_eq_true rfl) (And.intro rfl (And.intro (Nat.le_of_ble_eq_true rfl) (And.intro (Nat.le_of_ble_eq_true rfl) (mjY_mono ty (fun q_ u1 ty1 h_ => ?_) (one 1 0 (sfB i1 (σ.1 f_optGet) ws (strip ks)) (hw (by omega)) (if_pos y)))))))
    obtain ⟨rfl, rfl⟩ := h_
    intro _
    refine mjZ_y rfl rfl 1 _ _ _ _ ty1 ?_
    refine And.intro rfl (And.intro (Or.inr ⟨rfl, bI_01 _⟩) ?_)
    exact ⟨rfl, rfl⟩
  have no : ¬ (i1 = 1 ∨ i1 = 3 ∨ i1 = 4 ∨ (11 ≤ i1 ∧ i1 ≤ 21) ∨ (i1 = 2 ∧ ¬ σ.1 f_optGet = 0)) → mjY mjPP (mjQQ Y) (d + 4) 74 26 [some (.ref 0), some (.int x), none, none] [] σ (sfK σ (sfB i1 (σ.1 f_optGet) ws (strip ks))) := by
    intro n
    rw [show sfB i1 (σ.1 f_optGet) ws (strip ks) = sf2 i1 ws (strip ks) from if_neg n]
    exact s26
  have s15 : ¬ i1 = 1 → ¬ i1 = 3 → ¬ i1 = 4 → ¬ (11 ≤ i1 ∧ i1 ≤ 21) → mjY mjPP (mjQQ Y) (d + 4) 74 15 [some (.ref 0), some (.int x), none, none] [] σ (sfK σ (sfB i1 (σ.1 f_optGet) ws (strip ks))) := by
    intro n1 n2 n3 n4
    have nn : ¬ (i1 = 2 ∧ ¬ σ.1 f_optGet = 0) → ¬ (i1 = 1 ∨ i1 = 3 ∨ i1 = 4 ∨ (11 ≤ i1 ∧ i1 ≤ 21) ∨ (i1 = 2 ∧ ¬ σ.1 f_optGet = 0)) := fun n5 z => z.elim n1 (fun z => z.elim n2 (fun z => z.elim n3 (fun z => z.elim n4 n5)))
    refine mjZ_y rfl rfl 3 _ _ _ _ ty ?_
    refine And.intro (fun c => ?_) (fun c => ?_)
    · exact no (nn (fun z => c ((E 2 (by decide)).mpr z.1)))
    · have c : i1 = 2 := (E 2 (by decide)).mp (Decidable.of_not_not c)
      refine mjZ_y rfl rfl 3 _ _ _ _ ty ?_
      refine (And.intro rfl (And.intro (fun b => ?_) (fun b => ?_)))
      · exact no (nn (fun z => z.2 b))
      · exact yes (Or.inr (Or.inr (Or.inr (Or.inr ⟨c, b⟩))))
  refine mjZ_y rfl rfl 3 _ _ _ _ ty ?_
  refine And.intro (fun a => ?_) (fun a => ?_)
  · exact yes (Or.inl ((E 1 (by decide)).mp a))
  · have a : ¬ i1 = 1 := fun z => a ((E 1 (by decide)).mpr z)
    refine mjZ_y rfl rfl 3 _ _ _ _ ty ?_
    refine And.intro (fun b => ?_) (fun b => ?_)
    · exact yes (Or.inr (Or.inl ((E 3 (by decide)).mp b)))
    · have b : ¬ i1 = 3 := fun z => b ((E 3 (by decide)).mpr z)
      refine mjZ_y rfl rfl 3 _ _ _ _ ty ?_
      refine And.intro (fun c => ?_) (fun c => ?_)
      · exact yes (Or.inr (Or.inr (Or.inl ((E 4 (by decide)).mp c))))
      · have c : ¬ i1 = 4 := fun z => c ((E 4 (by decide)).mpr z)
        refine mjZ_y rfl rfl 3 _ _ _ _ ty ?_
        refine And.intro (fun e => ?_) (fun e => ?_)
        · exact s15 a b c (fun z => by have := (L 11 (by decide)).mp e; omega)
        · have e : 11 ≤ i1 := Nat.le_of_not_lt (fun z => e ((L 11 (by decide)).mpr z))
          refine mjZ_y rfl rfl 3 _ _ _ _ ty ?_
          refine And.intro (fun g => ?_) (fun g => ?_)
          · exact yes (Or.inr (Or.inr (Or.inr (Or.inl ⟨e, (LE 21 (by decide)).mp g⟩))))
          · exact s15 a b c (fun z => g ((LE 21 (by decide)).mpr z.2))
end SORTS
