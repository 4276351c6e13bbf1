/-! ZREMRANGEBYRANK, ZREMRANGEBYSCORE, ZCOUNT; ZPOPMIN, ZPOPMAX. -/
section ZCUT
variable {Y : Nat → MethodName × ByteArray} {d : Nat}
def ibT (no : Int32) (lo hi s : Int64) : Bool := decide (no = 0 ∧ (¬ s < lo) ∧ ¬ hi < s)
set_option maxRecDepth 100000 in
theorem w_inBounds {σ : mjS} {ws : List (List Int32)} {P Q : List KR} {y : KR} {l : List Int32} (h : Wd σ ws (P ++ y :: Q) l) (ty : mjTY σ) {z : ER} (hz : z ∈ y.2.2.2.2.2.2) {x1 : Int32} (e1 : x1 = nI z.1) : mjY mjPP (mjQQ Y) d 138 0 (mjL0 2 [.ref 0, .int x1]) [] σ (fun q u => u = σ ∧ q = some (.int (if ibT (σ.1 f_noScore) (σ.2.1 f_lowScore) (σ.2.1 f_highScore) z.2.2.2 = true then 1 else 0))) := by
  obtain ⟨hs, hh, ho⟩ := h.eid hz
  have zid := ho.1
  have v1 : vp_in x1 10000 := by rw [e1]; exact vp_in_nI zid (by decide)
  have c1 : x1.toNatClampNeg = z.1 := by rw [e1]; exact nI_clamp (by omega)
  have esc : σ.2.2.2 (mjHn 30) x1.toNatClampNeg = z.2.2.2 := by rw [c1]; exact ho.2.2.2
  have no : ¬ ibT (σ.1 f_noScore) (σ.2.1 f_lowScore) (σ.2.1 f_highScore) z.2.2.2 = true → mjY mjPP (mjQQ Y) d 138 21 [some (.ref 0), some (.int x1)] [] σ (fun q u => u = σ ∧ q = some (.int (if ibT (σ.1 f_noScore) (σ.2.1 f_lowScore) (σ.2.1 f_highScore) z.2.2.2 = true then 1 else 0))) := by
    intro c
    refine mjZ_y rfl rfl 2 _ _ _ _ ty ?_
    refine And.intro rfl (And.intro (Or.inr ⟨rfl, Or.inl rfl⟩) ?_)
    exact ⟨rfl, by rw [if_neg c]; rfl⟩
  refine mjZ_y rfl rfl 3 _ _ _ _ ty ?_
  refine (And.intro rfl (And.intro (fun a => ?_) (fun a => ?_)))
  · exact no (fun c => a (of_decide_eq_true c).1)
  · refine mjZ_y rfl rfl 8 _ _ _ _ ty ?_
    refine (And.intro rfl (And.intro rfl (And.intro v1 (And.intro rfl (And.intro (fun b => ?_) (fun b => ?_))))))
    · have b := (lg_cmp_lt _ _).mp b
      rw [esc] at b
      exact no (fun c => (of_decide_eq_true c).2.1 b)
    · refine mjZ_y rfl rfl 8 _ _ _ _ ty ?_
      refine (And.intro rfl (And.intro rfl (And.intro v1 (And.intro rfl (And.intro (fun c => ?_) (fun c => ?_))))))
      · have c := (lg_cmp_gt _ _).mp c
        rw [esc] at c
        exact no (fun t => (of_decide_eq_true t).2.2 c)
      · refine mjZ_y rfl rfl 3 _ _ _ _ ty ?_
        refine And.intro rfl (And.intro (Or.inr ⟨rfl, Or.inr rfl⟩) ?_)
        have a : σ.1 f_noScore = 0 := Decidable.of_not_not a
        have b : ¬ z.2.2.2 < σ.2.1 f_lowScore := fun t => b ((lg_cmp_lt _ _).mpr (by rw [esc]; exact t))
        have c : ¬ σ.2.1 f_highScore < z.2.2.2 := fun t => c ((lg_cmp_gt _ _).mpr (by rw [esc]; exact t))
        exact ⟨rfl, by rw [if_pos (show ibT (σ.1 f_noScore) (σ.2.1 f_lowScore) (σ.2.1 f_highScore) z.2.2.2 = true from decide_eq_true ⟨a, b, c⟩)]; rfl⟩
/-- what is cut: by place, or by score -/
def zcT (i1 : Nat) (fr tt : Nat) (no : Int32) (lo hi : Int64) (i : Nat) (z : AE) : Bool := if i1 = 90 then decide (fr ≤ i ∧ i < tt) else ibT no lo hi z.2.2
def zcE (T : Nat → AE → Bool) : Nat → List AE → List AE
  | _, [] => []
  | i, z :: r => if T i z = true then zcE T (i + 1) r else z :: zcE T (i + 1) r
def zcN (T : Nat → AE → Bool) : Nat → List AE → Nat
  | _, [] => 0
  | i, z :: r => (if T i z = true then 1 else 0) + zcN T (i + 1) r
theorem zcN_le (T : Nat → AE → Bool) : ∀ (es : List AE) (i : Nat), zcN T i es ≤ es.length := by
  intro es
  induction es with
  | nil => intro i; exact Nat.le_refl _
  | cons z r ih =>
    intro i
    show (if T i z = true then 1 else 0) + zcN T (i + 1) r ≤ r.length + 1
    have := ih (i + 1)
    split <;> omega
theorem zcN_0 (T : Nat → AE → Bool) : ∀ (es : List AE) (i : Nat), zcN T i es = 0 → zcE T i es = es := by
  intro es
  induction es with
  | nil => intro i _; rfl
  | cons z r ih =>
    intro i h
    have h : (if T i z = true then 1 else 0) + zcN T (i + 1) r = 0 := h
    show (if T i z = true then zcE T (i + 1) r else z :: zcE T (i + 1) r) = z :: r
    by_cases c : T i z = true
    · rw [if_pos c] at h; omega
    · rw [if_neg c] at h ⊢; rw [ih (i + 1) (by omega)]
set_option maxRecDepth 100000 in
theorem c_zc_loop (K : mjK) (i1 : Nat) (hi : i1 < 128) (x1 : Int32) (e1 : x1 = nI i1) {ws : List (List Int32)} {l : List Int32} {P Q : List KR} (k fr tt : Nat) (hfr : fr ≤ 20000) (htt : tt ≤ 20000) (no : Int32) (lo hi' : Int64) (x2 : Int32) (e2 : x2 = nI k) : ∀ (R F : List ER) (i n : Nat) (σ : mjS) (y : KR) (x3 x4 x5 : Int32) (l6 l7 : Option Value), y.2.2.2.2.2.2 = F ++ R → x5 = nx (ids R) → x3 = nI n → x4 = nI i → i + R.length ≤ 10000 → n + R.length ≤ 10000 → y.1 = k → mjTY σ → Wd σ ws (P ++ y :: Q) l → (i1 = 90 → σ.1 f_from = nI fr ∧ σ.1 f_upTo = nI tt) → σ.1 f_noScore = no → σ.2.1 f_lowScore = lo → σ.2.1 f_highScore = hi' →
    (∀ u y' x3 x4 x5 l6 l7, mjTY u → Fr kF kH σ u → y'.1 = k → Wd u ws (P ++ y' :: Q) l → st1 y' = esF (fun _ => if i1 = 89 then (F ++ R).map (fun z => z.2) else F.map (fun z => z.2) ++ zcE (zcT i1 fr tt no lo hi') i (R.map (fun z => z.2))) (st1 y) → x3 = nI (n + zcN (zcT i1 fr tt no lo hi') i (R.map (fun z => z.2))) → mjY mjPP (mjQQ Y) (d + 1) 140 71 [some (.ref 0), some (.int x1), some (.int x2), some (.int x3), some (.int x4), some (.int x5), l6, l7] [] u K) →
    mjY mjPP (mjQQ Y) (d + 1) 140 29 [some (.ref 0), some (.int x1), some (.int x2), some (.int x3), some (.int x4), some (.int x5), l6, l7] [] σ K := by
  have nn : ∀ c : Nat, c < 128 → ((¬ x1 = nI c) ↔ ¬ i1 = c) := fun c hc => by rw [e1, nI_eq (by omega) (by omega)]
  intro R
  induction R with
  | nil =>
    intro F i n σ y x3 x4 x5 l6 l7 hE e5 e3 e4 hi4 hn hy ty h hft hno hlo hhi hK
    refine mjZ_y rfl rfl 2 _ _ _ _ ty ?_
    refine And.intro (fun q => ?_) (fun q => ?_)
    · refine hK σ y _ _ _ _ _ ty Fr.rf hy h ?_ e3
      have em : y.2.2.2.2.2.2.map (fun z => z.2) = F.map (fun z => z.2) ++ [] := by rw [hE, List.map_append]; rfl
      show st1 y = (y.2.1, y.2.2.1, y.2.2.2.1, tmN y.2.2.2.1 y.2.2.2.2.1, y.2.2.2.2.2.1, if i1 = 89 then (F ++ []).map (fun z : ER => z.2) else F.map (fun z : ER => z.2) ++ [])
      have e9 : (if i1 = 89 then (F ++ []).map (fun z : ER => z.2) else F.map (fun z : ER => z.2) ++ []) = y.2.2.2.2.2.2.map (fun z => z.2) := by
        rw [em]; split
        · rw [List.map_append]; rfl
        · rfl
      rw [e9]; rfl
    · exact absurd (lt_m1 e5) q
  | cons z R ih =>
    intro F i n σ y x3 x4 x5 l6 l7 hE e5 e3 e4 hi4 hn hy ty h hft hno hlo hhi hK
    rw [List.length_cons] at hi4 hn
    have e5 : x5 = nI z.1 := e5
    have e2y : x2 = nI y.1 := by rw [hy]; exact e2
    have hm : z ∈ y.2.2.2.2.2.2 := by rw [hE]; exact List.mem_append_right _ List.mem_cons_self
    obtain ⟨hN, -, v5⟩ := W_next h hE e5
    obtain ⟨hs, hh, ho⟩ := h.eid hm
    have hid := ho.1
    have cN : zcN (zcT i1 fr tt no lo hi') i ((z :: R).map (fun z => z.2)) = (if zcT i1 fr tt no lo hi' i z.2 = true then 1 else 0) + zcN (zcT i1 fr tt no lo hi') (i + 1) (R.map (fun z => z.2)) := rfl
    have cE : zcE (zcT i1 fr tt no lo hi') i ((z :: R).map (fun z => z.2)) = if zcT i1 fr tt no lo hi' i z.2 = true then zcE (zcT i1 fr tt no lo hi') (i + 1) (R.map (fun z => z.2)) else z.2 :: zcE (zcT i1 fr tt no lo hi') (i + 1) (R.map (fun z => z.2)) := rfl
    rw [cN, cE] at hK
    -- it stays
    have stay : ∀ (x3' x7 : Int32) (n' : Nat), x3' = nI n' → n' = n + (if zcT i1 fr tt no lo hi' i z.2 = true then 1 else 0) → (i1 = 89 ∨ ¬ zcT i1 fr tt no lo hi' i z.2 = true) → mjY mjPP (mjQQ Y) (d + 1) 140 67 [some (.ref 0), some (.int x1), some (.int x2), some (.int x3'), some (.int x4), some (.int x5), some (.int (nx (ids R))), some (.int x7)] [] σ K := by
      intro x3' x7 n' e3' en' hst
      have hn' : n' ≤ n + 1 := by rw [en']; split <;> omega
      refine mjZ_y rfl rfl 4 _ _ _ _ ty ?_
      refine (And.intro (Nat.le_of_ble_eq_true rfl) ?_)
      refine ih (F ++ [z]) (i + 1) n' σ y _ _ _ _ _ (by rw [hE, List.append_assoc]; rfl) rfl e3' (by rw [e4]; exact nI_1 i) (by omega) (by omega) hy ty h hft hno hlo hhi (fun u y' x3 x4 x5 l6 l7 tu fu hy' hu es en => hK u y' x3 x4 x5 l6 l7 tu fu hy' hu ?_ ?_)
      · rw [es]; congr 1; funext _
        by_cases c : i1 = 89
        · rw [if_pos c, if_pos c, List.append_assoc]; rfl
        · rw [if_neg c, if_neg c, if_neg (hst.elim (fun q => absurd q c) id), List.map_append, List.append_assoc]; rfl
      · rw [en, en']; congr 1; omega
    have cut : ∀ (x3' x7 : Int32), x3' = nI (n + 1) → ¬ i1 = 89 → zcT i1 fr tt no lo hi' i z.2 = true → mjY mjPP (mjQQ Y) (d + 1) 140 63 [some (.ref 0), some (.int x1), some (.int x2), some (.int x3'), some (.int x4), some (.int x5), some (.int (nx (ids R))), some (.int x7)] [] σ K := by
      intro x3' x7 e3' n89 hT
      rw [if_pos hT, if_pos hT] at hK
      refine mjZ_y rfl rfl 4 _ _ _ _ ty ?_
      refine (And.intro (Nat.le_of_ble_eq_true rfl) (And.intro rfl (And.intro (Nat.le_of_ble_eq_true rfl) (And.intro (Nat.le_of_ble_eq_true rfl) (mjY_mono ty (fun q_ u2 ty2 h_ => ?_) (w_unlink h ty hE e2y e5))))))
      obtain ⟨rfl, h2, f2⟩ := h_
      intro _
      refine mjZ_y rfl rfl 4 _ _ _ _ ty2 ?_
      refine (And.intro (Nat.le_of_ble_eq_true rfl) ?_)
      refine ih F (i + 1) (n + 1) u2 (withE y (F ++ R)) _ _ _ _ _ rfl rfl e3' (by rw [e4]; exact nI_1 i) (by omega) (by omega) hy ty2 h2 (fun q => by rw [f2.1 _ (by decide), f2.1 _ (by decide)]; exact hft q) (by rw [f2.1 _ (by decide)]; exact hno) (by rw [f2.2.1 _ (by decide)]; exact hlo) (by rw [f2.2.1 _ (by decide)]; exact hhi) (fun u y' x3 x4 x5 l6 l7 tu fu hy' hu es en => hK u y' x3 x4 x5 l6 l7 tu (f2.tr fu) hy' hu ?_ ?_)
      · rw [es, if_neg n89, if_neg n89]; rfl
      · rw [en]; congr 1; omega
    have s54 : ∀ x7 : Int32, (x7 = if zcT i1 fr tt no lo hi' i z.2 = true then 1 else 0) → mjY mjPP (mjQQ Y) (d + 1) 140 55 [some (.ref 0), some (.int x1), some (.int x2), some (.int x3), some (.int x4), some (.int x5), some (.int (nx (ids R))), some (.int x7)] [] σ K := by
      intro x7 e7
      refine mjZ_y rfl rfl 2 _ _ _ _ ty ?_
      refine And.intro (fun q => ?_) (fun q => ?_)
      · have q : ¬ zcT i1 fr tt no lo hi' i z.2 = true := fun t => by rw [if_pos t] at e7; exact absurd (e7.symm.trans q) (by decide)
        refine mjZ_y rfl rfl 2 _ _ _ _ ty ?_
        refine And.intro (fun q2 => ?_) (fun q2 => ?_)
        · exact stay x3 x7 n e3 (by rw [if_neg q]; rfl) (Or.inr q)
        · exact absurd (show x7 = 0 by rw [e7, if_neg q]) q2
      · have q : zcT i1 fr tt no lo hi' i z.2 = true := Decidable.of_not_not (fun t => q (by rw [if_neg t] at e7; exact e7))
        refine mjZ_y rfl rfl 1 _ _ _ _ ty ?_
        have q2 : ¬ x7 = 0 := by rw [e7, if_pos q]; decide
        refine mjZ_y rfl rfl 2 _ _ _ _ ty ?_
        refine And.intro (fun q3 => ?_) (fun q3 => ?_)
        · exact absurd q3 q2
        · refine mjZ_y rfl rfl 3 _ _ _ _ ty ?_
          refine And.intro (fun q4 => ?_) (fun q4 => ?_)
          · have q4 : i1 = 89 := Decidable.of_not_not (fun t => (nn 89 (by decide)).mpr t q4)
            exact stay _ x7 (n + 1) (by rw [e3]; exact nI_1 n) (by rw [if_pos q]) (Or.inl q4)
          · have q4 := (nn 89 (by decide)).mp q4
            exact cut _ x7 (by rw [e3]; exact nI_1 n) q4 q
    refine mjZ_y rfl rfl 2 _ _ _ _ ty ?_
    refine And.intro (fun q => ?_) (fun q => ?_)
    · exact absurd (show x5 < 0 from q) (lt_nI (by omega) e5)
    · refine mjZ_y rfl rfl 5 _ _ _ _ ty ?_
      refine (And.intro rfl (And.intro rfl (And.intro v5 (And.intro (Nat.le_of_ble_eq_true rfl) ?_))))
      have hN' : σ.2.2.1 (mjHn 24) x5.toNatClampNeg = nx (ids R) := hN
      rw [hN']
      refine mjZ_y rfl rfl 3 _ _ _ _ ty ?_
      refine And.intro (fun a => ?_) (fun a => ?_)
      · have a := (nn 90 (by decide)).mp a
        have ez : zcT i1 fr tt no lo hi' i z.2 = ibT no lo hi' z.2.2.2 := if_neg a
        refine mjZ_y rfl rfl 3 _ _ _ _ ty ?_
        refine (And.intro (Nat.le_of_ble_eq_true rfl) (And.intro rfl (And.intro (Nat.le_of_ble_eq_true rfl) (And.intro (Nat.le_of_ble_eq_true rfl) (mjY_mono ty (fun q_ u1 ty1 h_ => ?_) (w_inBounds h ty hm e5))))))
        obtain ⟨rfl, rfl⟩ := h_
        intro _
        refine mjZ_y rfl rfl 1 _ _ _ _ ty ?_
        refine (And.intro (Nat.le_of_ble_eq_true rfl) ?_)
        refine s54 _ ?_
        rw [ez, hno, hlo, hhi]
      · have a : i1 = 90 := Decidable.of_not_not (fun t => a ((nn 90 (by decide)).mpr t))
        obtain ⟨ef, et⟩ := hft a
        have ez : (zcT i1 fr tt no lo hi' i z.2 = true) ↔ (fr ≤ i ∧ i < tt) := by
          unfold zcT; rw [if_pos a]; exact decide_eq_true_iff
        have nos : ¬ (fr ≤ i ∧ i < tt) → mjY mjPP (mjQQ Y) (d + 1) 140 49 [some (.ref 0), some (.int x1), some (.int x2), some (.int x3), some (.int x4), some (.int x5), some (.int (nx (ids R))), l7] [] σ K := by
          intro t
          refine mjZ_y rfl rfl 3 _ _ _ _ ty ?_
          refine (And.intro (Nat.le_of_ble_eq_true rfl) ?_)
          exact s54 _ (by rw [if_neg (fun z => t (ez.mp z))]; rfl)
        refine mjZ_y rfl rfl 4 _ _ _ _ ty ?_
        refine (And.intro rfl (And.intro (fun b => ?_) (fun b => ?_)))
        · have b : ¬ fr ≤ i := by
            intro t
            exact absurd (show x4 < σ.1 f_from from b) (by rw [e4, ef]; exact Int32.not_lt.mpr (nI_le t (by omega)))
          exact nos (fun t => b t.1)
        · have b : fr ≤ i := Nat.le_of_not_lt (fun t => b (show x4 < σ.1 f_from by rw [e4, ef]; exact Int32.not_le.mp (nI_ge t (by omega))))
          refine mjZ_y rfl rfl 4 _ _ _ _ ty ?_
          refine (And.intro rfl (And.intro (fun c => ?_) (fun c => ?_)))
          · have c : ¬ i < tt := by
              intro t
              exact absurd (show σ.1 f_upTo ≤ x4 from c) (by rw [e4, et]; exact nI_ge t (by omega))
            exact nos (fun t => c t.2)
          · have c : i < tt := Nat.lt_of_not_le (fun t => c (show σ.1 f_upTo ≤ x4 by rw [e4, et]; exact nI_le t (by omega)))
            refine mjZ_y rfl rfl 3 _ _ _ _ ty ?_
            refine (And.intro (Nat.le_of_ble_eq_true rfl) ?_)
            exact s54 _ (by rw [if_pos (ez.mpr ⟨b, c⟩)]; rfl)
def zcF (A : List AK) (w : List Int32) (i1 : Nat) (i j : Int64) (no : Int32) (lo hi : Int64) : Option (List AK) := match kyI A w with
  | none => none
  | some p => (match A[p]? with
    | none => none
    | some a => if i1 = 89 ∨ zcN (zcT i1 (strF i j (mnA A w)).1 (strF i j (mnA A w)).2 no lo hi) 0 a.2.2.2.2.2 = 0 then none else some (stlA A p (zcE (zcT i1 (strF i j (mnA A w)).1 (strF i j (mnA A w)).2 no lo hi) 0)))
set_option maxRecDepth 100000 in
theorem r_zcut {σ : mjS} {ws : List (List Int32)} {ks : List KR} {l : List Int32} (h : Wd σ ws ks l) (ty : mjTY σ) (i1 : Nat) (hi : i1 < 128) {x1 : Int32} (e1 : x1 = nI i1) {w : List Int32} (h1 : ws[1]? = some w) (i j : Int64) (ei : σ.2.1 f_n1 = i) (ej : σ.2.1 f_n2 = j) (hs : l.length + 132 + sz ws ≤ 420000) :
    mjY mjPP (mjQQ Y) (d + 6) 140 0 (mjL0 8 [.ref 0, .int x1]) [] σ (cmdK σ ws ks l i1 (zcF (strip ks) w i1 i j (σ.1 f_noScore) (σ.2.1 f_lowScore) (σ.2.1 f_highScore))) := by
  have hlen := (List.getElem?_eq_some_iff.mp h1).1
  have nn : ∀ c : Nat, c < 128 → ((¬ x1 = nI c) ↔ ¬ i1 = c) := fun c hc => by rw [e1, nI_eq (by omega) (by omega)]
  have hm := mnA_le h w
  have sle := strF_le i j (mnA (strip ks) w) (by omega)
  refine mjZ_y rfl rfl 3 _ _ _ _ ty ?_
  refine (And.intro (Nat.le_of_ble_eq_true rfl) (And.intro rfl (And.intro (Nat.le_of_ble_eq_true rfl) (And.intro (Nat.le_of_ble_eq_true rfl) (mjY_mono ty (fun q_ u1 ty1 h_ => ?_) (w_key h ty h1 (x := Int32.ofInt 1) rfl))))))
  obtain ⟨rfl, rfl⟩ := h_
  intro _
  have s18 : ∀ u : mjS, mjTY u → Fr [f_from, f_upTo] [] u1 u → (i1 = 90 → u.1 f_from = nI (strF i j (mnA (strip ks) w)).1 ∧ u.1 f_upTo = nI (strF i j (mnA (strip ks) w)).2) → mjY mjPP (mjQQ Y) (d + 6) 140 18 [some (.ref 0), some (.int x1), some (.int (kyS ks w)), some (.int 0), none, none, none, none] [] u (cmdK u1 ws ks l i1 (zcF (strip ks) w i1 i j (u1.1 f_noScore) (u1.2.1 f_lowScore) (u1.2.1 f_highScore))) := by
    intro u tu fu hft
    have hu := h.fr fu (by decide) (by decide)
    have fuc : Fr cF cH u1 u := fu.up (by decide) (by decide)
    refine mjZ_y rfl rfl 6 _ _ _ _ tu ?_
    refine (And.intro (Nat.le_of_ble_eq_true rfl) (And.intro (Nat.le_of_ble_eq_true rfl) (And.intro (fun c => ?_) (fun c => ?_))))
    · have c := (ky_ge h w).2.mp c
      have eo : zcF (strip ks) w i1 i j (u1.1 f_noScore) (u1.2.1 f_lowScore) (u1.2.1 f_highScore) = none := by unfold zcF; rw [c]
      rw [eo]
      refine mjZ_y rfl rfl 2 _ _ _ _ tu ?_
      refine And.intro (fun q => ?_) (fun q => ?_)
      · refine mjZ_y rfl rfl 2 _ _ _ _ tu ?_
        refine And.intro (fun q2 => ?_) (fun q2 => ?_)
        · refine mjZ_y rfl rfl 4 _ _ _ _ tu ?_
          refine (And.intro (Nat.le_of_ble_eq_true rfl) (And.intro rfl (And.intro (Nat.le_of_ble_eq_true rfl) (And.intro (Nat.le_of_ble_eq_true rfl) (mjY_mono tu (fun q_ u2 ty2 h_ => ?_) (w_number hu tu _))))))
          obtain ⟨rfl, h2, f2⟩ := h_
          intro _
          refine mjZ_y rfl rfl 1 _ _ _ _ ty2 ?_
          refine And.intro rfl (And.intro rfl ?_)
          exact ⟨rfl, fuc.tr f2.c, ks, h2, rfl⟩
        · exact absurd (show (0 : Int32) ≤ 0 by decide) q2
      · exact absurd (lt_m1 rfl) q
    · have c : ¬ kyI (strip ks) w = none := fun z => c ((ky_ge h w).2.mpr z)
      obtain ⟨P, y, Q, g0, g1, g2, -⟩ := ky_some c
      have e2 : kyS ks w = nI y.1 := g2
      generalize kyS ks w = x2 at e2
      subst g0
      obtain ⟨-, kHd, -, vk⟩ := W_tail hu e2
      have hle := W_len hu
      have eo : zcF (strip (P ++ y :: Q)) w i1 i j (u1.1 f_noScore) (u1.2.1 f_lowScore) (u1.2.1 f_highScore) = if i1 = 89 ∨ zcN (zcT i1 (strF i j (mnA (strip (P ++ y :: Q)) w)).1 (strF i j (mnA (strip (P ++ y :: Q)) w)).2 (u1.1 f_noScore) (u1.2.1 f_lowScore) (u1.2.1 f_highScore)) 0 (y.2.2.2.2.2.2.map (fun z => z.2)) = 0 then none else some (stlA (strip (P ++ y :: Q)) P.length (zcE (zcT i1 (strF i j (mnA (strip (P ++ y :: Q)) w)).1 (strF i j (mnA (strip (P ++ y :: Q)) w)).2 (u1.1 f_noScore) (u1.2.1 f_lowScore) (u1.2.1 f_highScore)) 0)) := by
        unfold zcF; rw [g1]; simp only [strip_gt]; rfl
      rw [eo]
      generalize hT : zcT i1 (strF i j (mnA (strip (P ++ y :: Q)) w)).1 (strF i j (mnA (strip (P ++ y :: Q)) w)).2 (u1.1 f_noScore) (u1.2.1 f_lowScore) (u1.2.1 f_highScore) = T
      have nle := zcN_le T (y.2.2.2.2.2.2.map (fun z => z.2)) 0
      rw [List.length_map] at nle
      refine mjZ_y rfl rfl 5 _ _ _ _ tu ?_
      refine (And.intro rfl (And.intro rfl (And.intro vk (And.intro (Nat.le_of_ble_eq_true rfl) ?_))))
      refine c_zc_loop _ i1 hi x1 e1 y.1 (strF i j (mnA (strip (P ++ y :: Q)) w)).1 (strF i j (mnA (strip (P ++ y :: Q)) w)).2 (by omega) (by omega) (u1.1 f_noScore) (u1.2.1 f_lowScore) (u1.2.1 f_highScore) x2 e2 y.2.2.2.2.2.2 [] 0 0 u y _ _ _ _ _ rfl kHd rfl rfl (by omega) (by omega) rfl tu hu hft (fu.1 _ (by decide)) (fu.2.1 _ (by decide)) (fu.2.1 _ (by decide)) (fun v y' x3 x4 x5 l6 l7 tv fv hy hv es en => ?_)
      rw [hT] at es en
      rw [Nat.zero_add] at en
      have fa := fuc.tr fv.k
      have nores : (i1 = 89 ∨ zcN T 0 (y.2.2.2.2.2.2.map (fun z => z.2)) = 0) → mjY mjPP (mjQQ Y) (d + 6) 140 82 [some (.ref 0), some (.int x1), some (.int x2), some (.int x3), some (.int x4), some (.int x5), l6, l7] [] v (cmdK u1 ws (P ++ y :: Q) l i1 (if i1 = 89 ∨ zcN T 0 (y.2.2.2.2.2.2.map (fun z => z.2)) = 0 then none else some (stlA (strip (P ++ y :: Q)) P.length (zcE T 0)))) := by
        intro hh
        rw [if_pos hh]
        refine mjZ_y rfl rfl 4 _ _ _ _ tv ?_
        refine (And.intro (Nat.le_of_ble_eq_true rfl) (And.intro rfl (And.intro (Nat.le_of_ble_eq_true rfl) (And.intro (Nat.le_of_ble_eq_true rfl) (mjY_mono tv (fun q_ u2 ty2 h_ => ?_) (w_number hv tv _))))))
        obtain ⟨rfl, h2, f2⟩ := h_
        intro _
        refine mjZ_y rfl rfl 1 _ _ _ _ ty2 ?_
        refine And.intro rfl (And.intro rfl ?_)
        refine ⟨rfl, fa.tr f2.c, _, h2, ?_⟩
        have es2 : st1 y' = st1 y := by
          rw [es]
          show (y.2.1, y.2.2.1, y.2.2.2.1, tmN y.2.2.2.1 y.2.2.2.2.1, y.2.2.2.2.2.1, if i1 = 89 then ([] ++ y.2.2.2.2.2.2).map (fun z : ER => z.2) else [] ++ zcE T 0 (y.2.2.2.2.2.2.map (fun z => z.2))) = _
          rcases hh with hh | hh
          · rw [if_pos hh]; rfl
          · by_cases c89 : i1 = 89
            · rw [if_pos c89]; rfl
            · rw [if_neg c89, zcN_0 T _ 0 hh]; rfl
        rw [strip_app, strip_cons, strip_app, strip_cons, es2]
      refine mjZ_y rfl rfl 2 _ _ _ _ tv ?_
      refine And.intro (fun q => ?_) (fun q => ?_)
      · have q : zcN T 0 (y.2.2.2.2.2.2.map (fun z => z.2)) = 0 := by
          have q : x3 ≤ nI 0 := q
          rw [en] at q
          have := (nI_leI (by omega) (by decide)).mp q; omega
        exact nores (Or.inr q)
      · have q : ¬ zcN T 0 (y.2.2.2.2.2.2.map (fun z => z.2)) = 0 := fun z => q (show x3 ≤ nI 0 by rw [en, z]; exact nI_le (Nat.le_refl _) (by decide))
        refine mjZ_y rfl rfl 3 _ _ _ _ tv ?_
        refine And.intro (fun r => ?_) (fun r => ?_)
        · exact nores (Or.inl (Decidable.of_not_not (fun t => (nn 89 (by decide)).mpr t r)))
        · have r := (nn 89 (by decide)).mp r
          rw [if_neg (fun z => z.elim r q)]
          have es2 : st1 y' = esF (zcE T 0) (st1 y) := by rw [es, if_neg r]; rfl
          have hl5 := W_len hv
          refine mjZ_y rfl rfl 3 _ _ _ _ tv ?_
          refine (And.intro (Nat.le_of_ble_eq_true rfl) (And.intro rfl (And.intro (Nat.le_of_ble_eq_true rfl) (And.intro (Nat.le_of_ble_eq_true rfl) (mjY_mono tv (fun q_ u6 ty6 h_ => ?_) (w_settle hv tv (show x2 = nI y'.1 by rw [hy]; exact e2) (by omega)))))))
          obtain ⟨rfl, f6, h6⟩ := h_
          intro _
          have fb := fa.tr f6.k1
          rcases h6 with ⟨z, h6⟩ | ⟨z, h6⟩
          · refine mjZ_y rfl rfl 3 _ _ _ _ ty6 ?_
            refine (And.intro (Nat.le_of_ble_eq_true rfl) (And.intro rfl (And.intro (Nat.le_of_ble_eq_true rfl) (And.intro (Nat.le_of_ble_eq_true rfl) (mjY_mono ty6 (fun q_ u7 ty7 h_ => ?_) (w_noteAll h6 ty6 (by omega) i1 e1 hi hs))))))
            obtain ⟨rfl, h7, f7⟩ := h_
            intro _
            refine mjZ_y rfl rfl 4 _ _ _ _ ty7 ?_
            refine (And.intro (Nat.le_of_ble_eq_true rfl) (And.intro rfl (And.intro (Nat.le_of_ble_eq_true rfl) (And.intro (Nat.le_of_ble_eq_true rfl) (mjY_mono ty7 (fun q_ u8 ty8 h_ => ?_) (w_number h7 ty7 _))))))
            obtain ⟨rfl, h8, f8⟩ := h_
            intro _
            refine mjZ_y rfl rfl 1 _ _ _ _ ty8 ?_
            refine And.intro rfl (And.intro rfl ?_)
            rw [ntA_fr fb] at h8
            exact ⟨rfl, (fb.tr f7.n).tr f8.c, _, h8, stl_nil es2 z⟩
          · refine mjZ_y rfl rfl 3 _ _ _ _ ty6 ?_
            refine (And.intro (Nat.le_of_ble_eq_true rfl) (And.intro rfl (And.intro (Nat.le_of_ble_eq_true rfl) (And.intro (Nat.le_of_ble_eq_true rfl) (mjY_mono ty6 (fun q_ u7 ty7 h_ => ?_) (w_noteAll h6 ty6 (by omega) i1 e1 hi hs))))))
            obtain ⟨rfl, h7, f7⟩ := h_
            intro _
            refine mjZ_y rfl rfl 4 _ _ _ _ ty7 ?_
            refine (And.intro (Nat.le_of_ble_eq_true rfl) (And.intro rfl (And.intro (Nat.le_of_ble_eq_true rfl) (And.intro (Nat.le_of_ble_eq_true rfl) (mjY_mono ty7 (fun q_ u8 ty8 h_ => ?_) (w_number h7 ty7 _))))))
            obtain ⟨rfl, h8, f8⟩ := h_
            intro _
            refine mjZ_y rfl rfl 1 _ _ _ _ ty8 ?_
            refine And.intro rfl (And.intro rfl ?_)
            rw [ntA_fr fb] at h8
            exact ⟨rfl, (fb.tr f7.n).tr f8.c, _, h8, stl_cons es2 z⟩
  refine mjZ_y rfl rfl 6 _ _ _ _ ty1 ?_
  refine (And.intro (Nat.le_of_ble_eq_true rfl) (And.intro (Nat.le_of_ble_eq_true rfl) (And.intro (fun a => ?_) (fun a => ?_))))
  · have a := (nn 90 (by decide)).mp a
    exact s18 u1 ty1 Fr.rf (fun z => absurd z a)
  · refine mjZ_y rfl rfl 8 _ _ _ _ ty1 ?_
    refine (And.intro rfl (And.intro rfl (And.intro (Nat.le_of_ble_eq_true rfl) (And.intro rfl (And.intro (Nat.le_of_ble_eq_true rfl) (And.intro (Nat.le_of_ble_eq_true rfl) (mjY_mono ty1 (fun q_ u2 ty2 h_ => ?_) (w_many h ty1 (w := w) rfl))))))))
    obtain ⟨rfl, rfl⟩ := h_
    intro _
    have hc := c_stretch (Y := Y) (d := d + 5) ty1 i j (mnA (strip ks) w) (by omega) rfl
    rw [← ei, ← ej] at hc
    refine mjZ_y rfl rfl 1 _ _ _ _ ty1 ?_
    refine (And.intro (Nat.le_of_ble_eq_true rfl) (And.intro rfl (And.intro (Nat.le_of_ble_eq_true rfl) (And.intro (Nat.le_of_ble_eq_true rfl) (mjY_mono ty1 (fun q_ u3 ty3 h_ => ?_) (hc))))))
    obtain ⟨rfl, f3, e3, e4⟩ := h_
    intro _
    rw [ei, ej] at e3 e4
    exact s18 u3 ty3 f3 (fun _ => ⟨e3, e4⟩)
-- ZPOPMIN, ZPOPMAX
set_option maxRecDepth 100000 in
theorem w_tellRanked {σ : mjS} {ws : List (List Int32)} {P Q : List KR} {y : KR} {l : List Int32} (h : Wd σ ws (P ++ y :: Q) l) (ty : mjTY σ) {z : ER} (hz : z ∈ y.2.2.2.2.2.2) {x1 x2 : Int32} (e1 : x1 = nI z.1) : mjY mjPP (mjQQ Y) (d + 3) 136 0 (mjL0 3 [.ref 0, .int x1, .int x2]) [] σ (fun q u => q = none ∧ Wd u ws (P ++ y :: Q) l ∧ oO σ u) := by
  obtain ⟨hs, hh, ho⟩ := h.eid hz
  have zid := ho.1
  have v1 : vp_in x1 10000 := by rw [e1]; exact vp_in_nI zid (by decide)
  refine mjZ_y rfl rfl 12 _ _ _ _ ty ?_
  refine (And.intro rfl (And.intro rfl (And.intro rfl (And.intro v1 (And.intro rfl (And.intro rfl (And.intro v1 (And.intro (Nat.le_of_ble_eq_true rfl) (And.intro rfl (And.intro (Nat.le_of_ble_eq_true rfl) (And.intro (Nat.le_of_ble_eq_true rfl) (mjY_mono ty (fun q_ u1 ty1 h_ => ?_) (w_wordR h ty ho.2.1 hh (by omega) e1)))))))))))))
  obtain ⟨rfl, h2, f2⟩ := h_
  intro _
  refine mjZ_y rfl rfl 2 _ _ _ _ ty1 ?_
  refine And.intro (fun c => ?_) (fun c => ?_)
  · refine mjZ_y rfl rfl 1 _ _ _ _ ty1 ?_
    refine And.intro rfl (And.intro rfl ?_)
    exact ⟨rfl, h2, f2⟩
  · refine mjZ_y rfl rfl 6 _ _ _ _ ty1 ?_
    refine (And.intro rfl (And.intro rfl (And.intro v1 (And.intro (Nat.le_of_ble_eq_true rfl) (And.intro rfl (And.intro (Nat.le_of_ble_eq_true rfl) (And.intro (Nat.le_of_ble_eq_true rfl) (mjY_mono ty1 (fun q_ u2 ty2 h_ => ?_) (w_numberWord h2 ty1 _)))))))))
    obtain ⟨rfl, h3, f3⟩ := h_
    intro _
    refine mjZ_y rfl rfl 1 _ _ _ _ ty2 ?_
    refine And.intro rfl (And.intro rfl ?_)
    exact ⟨rfl, h3, f2.tr f3⟩
set_option maxRecDepth 100000 in
theorem c_zpop_loop (K : mjK) (i1 : Nat) (hi : i1 < 128) (x1 : Int32) (e1 : x1 = nI i1) {ws : List (List Int32)} {l : List Int32} {P Q : List KR} (k n : Nat) (hn : n < 2 ^ 30) (x2 x3 : Int32) (e2 : x2 = nI k) (e3 : x3 = nI n) : ∀ (j i : Nat) (σ : mjS) (y : KR) (x4 : Int32) (l5 : Option Value), i + j = n → x4 = nI i → y.1 = k → mjTY σ → Wd σ ws (P ++ y :: Q) l → j ≤ y.2.2.2.2.2.2.length →
    (∀ u y' x4 l5, mjTY u → Fr cF cH σ u → y'.1 = k → Wd u ws (P ++ y' :: Q) l → st1 y' = esF (popE (if i1 = 93 then 42 else 41) j) (st1 y) → mjY mjPP (mjQQ Y) (d + 4) 141 51 [some (.ref 0), some (.int x1), some (.int x2), some (.int x3), some (.int x4), l5] [] u K) →
    mjY mjPP (mjQQ Y) (d + 4) 141 25 [some (.ref 0), some (.int x1), some (.int x2), some (.int x3), some (.int x4), l5] [] σ K := by
  intro j
  induction j with
  | zero =>
    intro i σ y x4 l5 hi e4 hy ty h hj hK
    refine mjZ_y rfl rfl 3 _ _ _ _ ty ?_
    refine And.intro (fun q => ?_) (fun q => ?_)
    · exact hK σ y _ _ ty Fr.rf hy h rfl
    · exact absurd (show x3 ≤ x4 by rw [e3, e4]; exact nI_le (by omega) (by omega)) q
  | succ j ih =>
    intro i σ y x4 l5 hi4 e4 hy ty h hj hK
    have e2y : x2 = nI y.1 := by rw [hy]; exact e2
    obtain ⟨kT, kHd, kM, vk⟩ := W_tail h e2y
    have nn : ∀ c : Nat, c < 128 → ((¬ x1 = nI c) ↔ ¬ i1 = c) := fun c hc => by rw [e1, nI_eq (by omega) (by omega)]
    have go : ∀ (x5 : Int32) (E1 E2 : List ER) (z : ER), y.2.2.2.2.2.2 = E1 ++ z :: E2 → x5 = nI z.1 → E1 ++ E2 = (if (if i1 = 93 then 42 else 41) = 42 then y.2.2.2.2.2.2.dropLast else y.2.2.2.2.2.2.tail) → mjY mjPP (mjQQ Y) (d + 4) 141 41 [some (.ref 0), some (.int x1), some (.int x2), some (.int x3), some (.int x4), some (.int x5)] [] σ K := by
      intro x5 E1 E2 z hE e5 hm
      have hzm : z ∈ y.2.2.2.2.2.2 := by rw [hE]; exact List.mem_append_right _ List.mem_cons_self
      refine mjZ_y rfl rfl 4 _ _ _ _ ty ?_
      refine (And.intro (Nat.le_of_ble_eq_true rfl) (And.intro rfl (And.intro (Nat.le_of_ble_eq_true rfl) (And.intro (Nat.le_of_ble_eq_true rfl) (mjY_mono ty (fun q_ u1 ty1 h_ => ?_) (w_tellRanked h ty hzm e5))))))
      obtain ⟨rfl, h2, f2⟩ := h_
      intro _
      refine mjZ_y rfl rfl 4 _ _ _ _ ty1 ?_
      refine (And.intro (Nat.le_of_ble_eq_true rfl) (And.intro rfl (And.intro (Nat.le_of_ble_eq_true rfl) (And.intro (Nat.le_of_ble_eq_true rfl) (mjY_mono ty1 (fun q_ u2 ty2 h_ => ?_) (w_unlink h2 ty1 hE e2y e5))))))
      obtain ⟨rfl, h3, f3⟩ := h_
      intro _
      refine mjZ_y rfl rfl 2 _ _ _ _ ty2 ?_
      have el : (E1 ++ E2).length + 1 = y.2.2.2.2.2.2.length := by rw [hE, List.length_append, List.length_append, List.length_cons]; omega
      refine ih (i + 1) u2 (withE y (E1 ++ E2)) _ _ (by omega) (by rw [e4]; exact nI_1 i) hy ty2 h3 (by show j ≤ (E1 ++ E2).length; omega) (fun u y' x4 l5 tu fu hy' hu eu => hK u y' x4 l5 tu ((f2.c.tr f3.k).tr fu) hy' hu ?_)
      rw [eu]
      show (y.2.1, y.2.2.1, y.2.2.2.1, tmN y.2.2.2.1 y.2.2.2.2.1, y.2.2.2.2.2.1, popE (if i1 = 93 then 42 else 41) j ((E1 ++ E2).map (fun z => z.2))) = (y.2.1, y.2.2.1, y.2.2.2.1, tmN y.2.2.2.1 y.2.2.2.2.1, y.2.2.2.2.2.1, popE (if i1 = 93 then 42 else 41) (j + 1) (y.2.2.2.2.2.2.map (fun z => z.2)))
      rw [← popE_map, ← popE_map, hm]; rfl
    have ne : y.2.2.2.2.2.2 ≠ [] := fun z => by rw [z] at hj; exact absurd hj (Nat.not_succ_le_zero j)
    refine mjZ_y rfl rfl 3 _ _ _ _ ty ?_
    refine And.intro (fun q => ?_) (fun q => ?_)
    · exact absurd (show x3 ≤ x4 from q) (by rw [e3, e4]; exact nI_ge (by omega) (by omega))
    · refine mjZ_y rfl rfl 8 _ _ _ _ ty ?_
      refine (And.intro rfl (And.intro rfl (And.intro vk (And.intro (Nat.le_of_ble_eq_true rfl) (And.intro (fun c => ?_) (fun c => ?_))))))
      · have c := (nn 93 (by decide)).mp c
        obtain ⟨z, R, hE, eH⟩ := W_first h e2y ne
        exact go _ [] R z hE eH (by rw [if_neg (by rw [if_neg c]; decide), hE]; rfl)
      · have c : i1 = 93 := Decidable.of_not_not (fun z => c ((nn 93 (by decide)).mpr z))
        obtain ⟨R, z, hE, eT⟩ := W_last h e2y ne
        refine mjZ_y rfl rfl 5 _ _ _ _ ty ?_
        refine (And.intro rfl (And.intro rfl (And.intro vk (And.intro (Nat.le_of_ble_eq_true rfl) ?_))))
        exact go _ R [] z hE eT (by rw [if_pos (by rw [if_pos c]), hE, List.dropLast_concat, List.append_nil])
def zpF (A : List AK) (w : List Int32) (i N : Nat) : Option (List AK) := match kyI A w with
  | none => none
  | some p => (match A[p]? with
    | some a => if min N a.2.2.2.2.2.length = 0 then none else some (stlA A p (popE (if i = 93 then 42 else 41) (min N a.2.2.2.2.2.length)))
    | none => none)
set_option maxRecDepth 100000 in
theorem r_zpop {σ : mjS} {ws : List (List Int32)} {ks : List KR} {l : List Int32} (h : Wd σ ws ks l) (ty : mjTY σ) (i1 : Nat) (hi : i1 < 128) {x1 : Int32} (e1 : x1 = nI i1) {w : List Int32} (h1 : ws[1]? = some w) (N : Nat) (hN : N < 2 ^ 63) (en : σ.2.1 f_n1 = lN N) (hs : l.length + 132 + sz ws ≤ 420000) :
    mjY mjPP (mjQQ Y) (d + 6) 141 0 (mjL0 6 [.ref 0, .int x1]) [] σ (cmdK σ ws ks l i1 (zpF (strip ks) w i1 N)) := by
  have hlen := (List.getElem?_eq_some_iff.mp h1).1
  have hm := mnA_le h w
  refine mjZ_y rfl rfl 3 _ _ _ _ ty ?_
  refine (And.intro (Nat.le_of_ble_eq_true rfl) (And.intro rfl (And.intro (Nat.le_of_ble_eq_true rfl) (And.intro (Nat.le_of_ble_eq_true rfl) (mjY_mono ty (fun q_ u1 ty1 h_ => ?_) (w_key h ty h1 (x := Int32.ofInt 1) rfl))))))
  obtain ⟨rfl, rfl⟩ := h_
  intro _
  refine mjZ_y rfl rfl 4 _ _ _ _ ty1 ?_
  refine (And.intro (Nat.le_of_ble_eq_true rfl) (And.intro (Nat.le_of_ble_eq_true rfl) (And.intro rfl (And.intro (Nat.le_of_ble_eq_true rfl) (And.intro (Nat.le_of_ble_eq_true rfl) (mjY_mono ty1 (fun q_ u2 ty2 h_ => ?_) (w_many h ty1 (w := w) rfl)))))))
  obtain ⟨rfl, rfl⟩ := h_
  intro _
  have en2 : u2.2.1 75 = lN N := en
  have go : ∀ x3 : Int32, x3 = nI (min N (mnA (strip ks) w)) → mjY mjPP (mjQQ Y) (d + 6) 141 18 [some (.ref 0), some (.int x1), some (.int (kyS ks w)), some (.int x3), none, none] [] u2 (cmdK u2 ws ks l i1 (zpF (strip ks) w i1 N)) := by
    intro x3 e3
    refine mjZ_y rfl rfl 5 _ _ _ _ ty1 ?_
    refine (And.intro (Nat.le_of_ble_eq_true rfl) (And.intro rfl (And.intro (Nat.le_of_ble_eq_true rfl) (And.intro (Nat.le_of_ble_eq_true rfl) (mjY_mono ty1 (fun q_ u3 ty3 h_ => ?_) (w_row h ty1 _))))))
    obtain ⟨rfl, h3, o3⟩ := h_
    intro _
    by_cases kn : kyI (strip ks) w = none
    · have e0 : mnA (strip ks) w = 0 := by unfold mnA; rw [kn]
      have eo : zpF (strip ks) w i1 N = none := by unfold zpF; rw [kn]
      rw [eo]
      rw [e0, Nat.min_zero] at e3
      refine mjZ_y rfl rfl 5 _ _ _ _ ty3 ?_
      refine (And.intro (Nat.le_of_ble_eq_true rfl) (And.intro (fun q => ?_) (fun q => ?_)))
      · refine mjZ_y rfl rfl 2 _ _ _ _ ty3 ?_
        refine And.intro (fun q2 => ?_) (fun q2 => ?_)
        · exact absurd (show x3 = 0 from e3) q2
        · refine mjZ_y rfl rfl 1 _ _ _ _ ty3 ?_
          refine And.intro rfl (And.intro rfl ?_)
          exact ⟨rfl, o3.c, ks, h3, rfl⟩
      · exact absurd (show x3 ≤ 0 by rw [e3]; decide) q
    · obtain ⟨P, y, Q, g0, g1, g2, -⟩ := ky_some kn
      have e2 : kyS ks w = nI y.1 := g2
      generalize kyS ks w = x2 at e2
      subst g0
      have em := mnA_at g1
      rw [em] at e3 hm
      have el : (st1 y).2.2.2.2.2.length = y.2.2.2.2.2.2.length := by show (y.2.2.2.2.2.2.map _).length = _; rw [List.length_map]
      have eo : zpF (strip (P ++ y :: Q)) w i1 N = if min N y.2.2.2.2.2.2.length = 0 then none else some (stlA (strip (P ++ y :: Q)) P.length (popE (if i1 = 93 then 42 else 41) (min N y.2.2.2.2.2.2.length))) := by
        unfold zpF; rw [g1]; simp only [strip_gt]; rw [el]
      rw [eo]
      refine mjZ_y rfl rfl 2 _ _ _ _ ty3 ?_
      refine (And.intro (Nat.le_of_ble_eq_true rfl) ?_)
      refine c_zpop_loop _ i1 hi x1 e1 y.1 (min N y.2.2.2.2.2.2.length) (by omega) x2 x3 e2 e3 _ 0 u3 y _ _ (Nat.zero_add _) rfl rfl ty3 h3 (by omega) (fun u4 y' x4 l5 ty4 f4 hy h4 es => ?_)
      have fa := o3.c.tr f4
      refine mjZ_y rfl rfl 2 _ _ _ _ ty4 ?_
      refine And.intro (fun b => ?_) (fun b => ?_)
      · have b : ¬ min N y.2.2.2.2.2.2.length = 0 := fun z => b (show x3 = 0 by rw [e3, z]; rfl)
        rw [if_neg b]
        have hl2 := W_len h4
        refine mjZ_y rfl rfl 3 _ _ _ _ ty4 ?_
        refine (And.intro (Nat.le_of_ble_eq_true rfl) (And.intro rfl (And.intro (Nat.le_of_ble_eq_true rfl) (And.intro (Nat.le_of_ble_eq_true rfl) (mjY_mono ty4 (fun q_ u5 ty5 h_ => ?_) (w_settle h4 ty4 (show x2 = nI y'.1 by rw [hy]; exact e2) (by omega)))))))
        obtain ⟨rfl, f5, h5⟩ := h_
        intro _
        have fb := fa.tr f5.k1
        rcases h5 with ⟨z, h5⟩ | ⟨z, h5⟩
        · refine mjZ_y rfl rfl 3 _ _ _ _ ty5 ?_
          refine (And.intro (Nat.le_of_ble_eq_true rfl) (And.intro rfl (And.intro (Nat.le_of_ble_eq_true rfl) (And.intro (Nat.le_of_ble_eq_true rfl) (mjY_mono ty5 (fun q_ u6 ty6 h_ => ?_) (w_noteAll h5 ty5 (by omega) i1 e1 hi hs))))))
          obtain ⟨rfl, h6, f6⟩ := h_
          intro _
          refine mjZ_y rfl rfl 1 _ _ _ _ ty6 ?_
          refine And.intro rfl (And.intro rfl ?_)
          rw [ntA_fr fb] at h6
          exact ⟨rfl, fb.tr f6.n, _, h6, stl_nil es z⟩
        · refine mjZ_y rfl rfl 3 _ _ _ _ ty5 ?_
          refine (And.intro (Nat.le_of_ble_eq_true rfl) (And.intro rfl (And.intro (Nat.le_of_ble_eq_true rfl) (And.intro (Nat.le_of_ble_eq_true rfl) (mjY_mono ty5 (fun q_ u6 ty6 h_ => ?_) (w_noteAll h5 ty5 (by omega) i1 e1 hi hs))))))
          obtain ⟨rfl, h6, f6⟩ := h_
          intro _
          refine mjZ_y rfl rfl 1 _ _ _ _ ty6 ?_
          refine And.intro rfl (And.intro rfl ?_)
          rw [ntA_fr fb] at h6
          exact ⟨rfl, fb.tr f6.n, _, h6, stl_cons es z⟩
      · have b : min N y.2.2.2.2.2.2.length = 0 := by
          have b : x3 = nI 0 := Decidable.of_not_not b
          rw [e3] at b
          exact (nI_eq (by omega) (by decide)).mp b
        rw [if_pos b]
        refine mjZ_y rfl rfl 1 _ _ _ _ ty4 ?_
        refine And.intro rfl (And.intro rfl ?_)
        refine ⟨rfl, fa, _, h4, ?_⟩
        rw [b] at es
        have es : st1 y' = st1 y := es
        rw [strip_app, strip_cons, strip_app, strip_cons, es]
  refine mjZ_y rfl rfl 7 _ _ _ _ ty1 ?_
  refine (And.intro (Nat.le_of_ble_eq_true rfl) (And.intro rfl (And.intro (fun b => ?_) (fun b => ?_))))
  · have b : lN (mnA (strip ks) w) ≤ lN N := by
      have b := (lg_cmp_ge _ _).mp b
      rw [nI_l (by omega), en2] at b; exact b
    have b := (pk_lLE (by omega) hN).mp b
    exact go _ (by congr 1; omega)
  · have b : ¬ mnA (strip ks) w ≤ N := fun z => b ((lg_cmp_ge _ _).mpr (by rw [nI_l (by omega), en2]; exact (pk_lLE (by omega) hN).mpr z))
    refine mjZ_y rfl rfl 4 _ _ _ _ ty1 ?_
    refine (And.intro rfl (And.intro (Nat.le_of_ble_eq_true rfl) ?_))
    exact go _ (by rw [en2, lN_i]; congr 1; omega)
end ZCUT
