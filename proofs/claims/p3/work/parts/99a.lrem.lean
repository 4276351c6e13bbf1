/-! LREM. -/
section LREM
variable {Y : Nat → MethodName × ByteArray} {d : Nat}
def lrE (n : Int64) (piv : List Int32) : Int64 → List AE → List AE
  | _, [] => []
  | left, z :: r => if n = 0 ∨ left < 0 then (if cmpW z.1 piv = 0 then lrE n piv (left + 1) r else z :: lrE n piv left r) else z :: r
theorem lrE_len (n : Int64) (piv : List Int32) : ∀ (es : List AE) (left : Int64), (lrE n piv left es).length ≤ es.length := by
  intro es
  induction es with
  | nil => intro left; exact Nat.le_refl _
  | cons z r ih =>
    intro left
    show (if n = 0 ∨ left < 0 then (if cmpW z.1 piv = 0 then lrE n piv (left + 1) r else z :: lrE n piv left r) else z :: r).length ≤ r.length + 1
    by_cases c : n = 0 ∨ left < 0
    · rw [if_pos c]
      by_cases b : cmpW z.1 piv = 0
      · rw [if_pos b]; have := ih (left + 1); omega
      · rw [if_neg b, List.length_cons]; have := ih left; omega
    · rw [if_neg c, List.length_cons]; exact Nat.le_refl _
theorem lrE_eq (n : Int64) (piv : List Int32) : ∀ (es : List AE) (left : Int64), (lrE n piv left es).length = es.length → lrE n piv left es = es := by
  intro es
  induction es with
  | nil => intro left _; rfl
  | cons z r ih =>
    intro left
    show (if n = 0 ∨ left < 0 then (if cmpW z.1 piv = 0 then lrE n piv (left + 1) r else z :: lrE n piv left r) else z :: r).length = r.length + 1 → (if n = 0 ∨ left < 0 then (if cmpW z.1 piv = 0 then lrE n piv (left + 1) r else z :: lrE n piv left r) else z :: r) = z :: r
    by_cases c : n = 0 ∨ left < 0
    · rw [if_pos c]
      by_cases b : cmpW z.1 piv = 0
      · rw [if_pos b]; intro e; have := lrE_len n piv r (left + 1); omega
      · rw [if_neg b, List.length_cons]; intro e; rw [ih left (by omega)]
    · rw [if_neg c]; intro _; rfl
theorem eqI_ne {a b : List Int32} : (¬ eqI a b = 0) ↔ cmpW a b = 0 := by
  unfold eqI
  by_cases c : cmpW a b = 0
  · rw [if_pos c]; exact ⟨fun _ => c, fun _ => by decide⟩
  · rw [if_neg c]; exact ⟨fun z => absurd rfl z, fun z => absurd z c⟩
set_option maxRecDepth 100000 in
theorem c_lrem_f (K : mjK) {ws : List (List Int32)} {l : List Int32} {P Q : List KR} {piv : List Int32} (hp : ws[3]? = some piv) (k : Nat) (x1 : Int32) (e1 : x1 = nI k) (N : Int64) : ∀ (R F : List ER) (σ : mjS) (y : KR) (c : Nat) (n left : Int64) (x7 : Int32) (l8 : Option Value), y.2.2.2.2.2.2 = F ++ R → x7 = nx (ids R) → n = lN c → y.1 = k → mjTY σ → Wd σ ws (P ++ y :: Q) l → σ.2.1 f_n1 = N →
    (∀ u y' n' left' x7 l8, mjTY u → Fr kF kH σ u → y'.1 = k → Wd u ws (P ++ y' :: Q) l → st1 y' = esF (fun _ => F.map (fun z => z.2) ++ lrE N piv left (R.map (fun z => z.2))) (st1 y) → n' = lN (c + (R.length - (lrE N piv left (R.map (fun z => z.2))).length)) → mjY mjPP (mjQQ Y) (d + 2) 112 86 [some (.ref 0), some (.int x1), some (.long n'), none, some (.int 0), some (.long left'), none, some (.int x7), l8] [] u K) →
    mjY mjPP (mjQQ Y) (d + 2) 112 43 [some (.ref 0), some (.int x1), some (.long n), none, some (.int 0), some (.long left), none, some (.int x7), l8] [] σ K := by
  intro R
  induction R with
  | nil =>
    intro F σ y c n left x7 l8 hE e7 en hy ty h eN hK
    refine mjZ_y rfl rfl 2 _ _ _ _ ty ?_
    refine And.intro (fun q => ?_) (fun q => ?_)
    · refine hK σ y n left x7 l8 ty Fr.rf hy h ?_ ?_
      · show st1 y = (y.2.1, y.2.2.1, y.2.2.2.1, tmN y.2.2.2.1 y.2.2.2.2.1, y.2.2.2.2.2.1, F.map (fun z => z.2) ++ [])
        rw [← (show y.2.2.2.2.2.2.map (fun z => z.2) = F.map (fun z => z.2) ++ [] by rw [hE, List.map_append]; rfl)]; rfl
      · rw [en]; rfl
    · exact absurd (lt_m1 e7) q
  | cons z R ih =>
    intro F σ y c n left x7 l8 hE e7 en hy ty h eN hK
    have hE2 : y.2.2.2.2.2.2 = F ++ z :: R := hE
    have e7 : x7 = nI z.1 := e7
    have e1y : x1 = nI y.1 := by rw [hy]; exact e1
    have hm : z ∈ y.2.2.2.2.2.2 := by rw [hE2]; exact List.mem_append_right _ List.mem_cons_self
    obtain ⟨hN, hP, v7⟩ := W_next h hE2 e7
    obtain ⟨hs, hh, ho⟩ := h.eid hm
    have hid := ho.1
    have el := lrE_len N piv (R.map (fun z => z.2))
    rw [List.length_map] at el
    have er : lrE N piv left ((z :: R).map (fun z => z.2)) = if N = 0 ∨ left < 0 then (if cmpW z.2.1 piv = 0 then lrE N piv (left + 1) (R.map (fun z => z.2)) else z.2 :: lrE N piv left (R.map (fun z => z.2))) else z.2 :: R.map (fun z => z.2) := rfl
    rw [er] at hK
    have stop : ¬ (N = 0 ∨ left < 0) → mjY mjPP (mjQQ Y) (d + 2) 112 86 [some (.ref 0), some (.int x1), some (.long n), none, some (.int 0), some (.long left), none, some (.int x7), l8] [] σ K := by
      intro no
      rw [if_neg no] at hK
      refine hK σ y n left x7 l8 ty Fr.rf hy h ?_ ?_
      · show st1 y = (y.2.1, y.2.2.1, y.2.2.2.1, tmN y.2.2.2.1 y.2.2.2.2.1, y.2.2.2.2.2.1, F.map (fun z => z.2) ++ z.2 :: R.map (fun z => z.2))
        rw [← (show y.2.2.2.2.2.2.map (fun z => z.2) = F.map (fun z => z.2) ++ z.2 :: R.map (fun z => z.2) by rw [hE, List.map_append]; rfl)]; rfl
      · rw [en, List.length_cons, List.length_cons, List.length_map, Nat.sub_self]; rfl
    -- one element is looked at
    have body : (N = 0 ∨ left < 0) → mjY mjPP (mjQQ Y) (d + 2) 112 54 [some (.ref 0), some (.int x1), some (.long n), none, some (.int 0), some (.long left), none, some (.int x7), l8] [] σ K := by
      intro yes
      rw [if_pos yes] at hK
      have go : ∀ x8 : Int32, x8 = nx (ids R) → mjY mjPP (mjQQ Y) (d + 2) 112 66 [some (.ref 0), some (.int x1), some (.long n), none, some (.int 0), some (.long left), none, some (.int x7), some (.int x8)] [] σ K := by
        intro x8 e8
        refine mjZ_y rfl rfl 4 _ _ _ _ ty ?_
        refine (And.intro (Nat.le_of_ble_eq_true rfl) (And.intro rfl (And.intro (Nat.le_of_ble_eq_true rfl) (And.intro (Nat.le_of_ble_eq_true rfl) (mjY_mono ty (fun q_ u1 ty1 h_ => ?_) (w_isWord h ty hm hp e7 (x2 := Int32.ofInt 3) rfl))))))
        obtain ⟨rfl, rfl⟩ := h_
        intro _
        refine mjZ_y rfl rfl 1 _ _ _ _ ty ?_
        refine And.intro (fun q => ?_) (fun q => ?_)
        · have q : ¬ cmpW z.2.1 piv = 0 := fun t => eqI_ne.mpr t q
          rw [if_neg q] at hK
          refine mjZ_y rfl rfl 3 _ _ _ _ ty ?_
          refine (And.intro (Nat.le_of_ble_eq_true rfl) ?_)
          refine ih (F ++ [z]) u1 y c n left _ _ (by rw [hE, List.append_assoc]; rfl) e8 en hy ty h eN (fun u y' n' left' x7 l8 tu fu hy' hu es e' => hK u y' n' left' x7 l8 tu fu hy' hu ?_ ?_)
          · rw [es]; congr 1; funext _; rw [List.map_append, List.append_assoc]; rfl
          · rw [e']; congr 1; rw [List.length_cons, List.length_cons]; have := el left; omega
        · have q : cmpW z.2.1 piv = 0 := eqI_ne.mp q
          rw [if_pos q] at hK
          refine mjZ_y rfl rfl 4 _ _ _ _ ty ?_
          refine (And.intro (Nat.le_of_ble_eq_true rfl) (And.intro rfl (And.intro (Nat.le_of_ble_eq_true rfl) (And.intro (Nat.le_of_ble_eq_true rfl) (mjY_mono ty (fun q_ u2 ty2 h_ => ?_) (w_unlink h ty hE2 e1y e7))))))
          obtain ⟨rfl, h2, f2⟩ := h_
          intro _
          refine mjZ_y rfl rfl 11 _ _ _ _ ty2 ?_
          refine (And.intro (Nat.le_of_ble_eq_true rfl) (And.intro (Nat.le_of_ble_eq_true rfl) (And.intro (Nat.le_of_ble_eq_true rfl) ?_)))
          refine ih F u2 (withE y (F ++ R)) (c + 1) _ _ _ _ rfl e8 (by rw [en]; exact lN_1 c) hy ty2 h2 (by rw [f2.2.1 _ (by decide)]; exact eN) (fun u y' n' left' x7 l8 tu fu hy' hu es e' => hK u y' n' left' x7 l8 tu (f2.tr fu) hy' hu ?_ ?_)
          · rw [es]; rfl
          · rw [e']; congr 1; rw [List.length_cons]; have := el (left + 1)
            show c + 1 + (R.length - (lrE N piv (left + 1) (R.map (fun z => z.2))).length) = _
            omega
      refine mjZ_y rfl rfl 2 _ _ _ _ ty ?_
      refine And.intro (fun q => ?_) (fun q => ?_)
      · refine mjZ_y rfl rfl 5 _ _ _ _ ty ?_
        refine (And.intro rfl (And.intro rfl (And.intro v7 (And.intro (Nat.le_of_ble_eq_true rfl) ?_))))
        exact go _ hN
      · exact absurd rfl q
    refine mjZ_y rfl rfl 2 _ _ _ _ ty ?_
    refine And.intro (fun q => ?_) (fun q => ?_)
    · exact absurd (show x7 < 0 from q) (lt_nI (by omega) e7)
    · have eN2 : σ.2.1 75 = N := eN
      refine mjZ_y rfl rfl 5 _ _ _ _ ty ?_
      refine (And.intro rfl (And.intro (fun c => ?_) (fun c => ?_)))
      · exact body (Or.inl (by rw [← eN2]; exact (lg_cmp_eq _ _).mp c))
      · have c : ¬ N = 0 := fun t => c ((lg_cmp_eq _ _).mpr (by rw [eN2]; exact t))
        refine mjZ_y rfl rfl 4 _ _ _ _ ty ?_
        refine And.intro (fun b => ?_) (fun b => ?_)
        · exact stop (fun t => t.elim c (fun t => Int64.not_lt.mpr ((lg_cmp_ge _ _).mp b) t))
        · exact body (Or.inr (Int64.not_le.mp (fun t => b ((lg_cmp_ge _ _).mpr t))))
set_option maxRecDepth 100000 in
theorem c_lrem_b (K : mjK) {ws : List (List Int32)} {l : List Int32} {P Q : List KR} {piv : List Int32} (hp : ws[3]? = some piv) (k : Nat) (x1 : Int32) (e1 : x1 = nI k) (N : Int64) : ∀ (R F : List ER) (σ : mjS) (y : KR) (c : Nat) (n left : Int64) (x7 : Int32) (l8 : Option Value), y.2.2.2.2.2.2 = R.reverse ++ F → x7 = lst (-1) (ids R.reverse) → n = lN c → y.1 = k → mjTY σ → Wd σ ws (P ++ y :: Q) l → σ.2.1 f_n1 = N →
    (∀ u y' n' left' x7 l8, mjTY u → Fr kF kH σ u → y'.1 = k → Wd u ws (P ++ y' :: Q) l → st1 y' = esF (fun _ => (lrE N piv left (R.map (fun z => z.2))).reverse ++ F.map (fun z => z.2)) (st1 y) → n' = lN (c + (R.length - (lrE N piv left (R.map (fun z => z.2))).length)) → mjY mjPP (mjQQ Y) (d + 2) 112 86 [some (.ref 0), some (.int x1), some (.long n'), none, some (.int 1), some (.long left'), none, some (.int x7), l8] [] u K) →
    mjY mjPP (mjQQ Y) (d + 2) 112 43 [some (.ref 0), some (.int x1), some (.long n), none, some (.int 1), some (.long left), none, some (.int x7), l8] [] σ K := by
  intro R
  induction R with
  | nil =>
    intro F σ y c n left x7 l8 hE e7 en hy ty h eN hK
    refine mjZ_y rfl rfl 2 _ _ _ _ ty ?_
    refine And.intro (fun q => ?_) (fun q => ?_)
    · refine hK σ y n left x7 l8 ty Fr.rf hy h ?_ ?_
      · show st1 y = (y.2.1, y.2.2.1, y.2.2.2.1, tmN y.2.2.2.1 y.2.2.2.2.1, y.2.2.2.2.2.1, [] ++ F.map (fun z => z.2))
        rw [← (show y.2.2.2.2.2.2.map (fun z => z.2) = [] ++ F.map (fun z => z.2) by rw [hE]; rfl)]; rfl
      · rw [en]; rfl
    · exact absurd (lt_m1 e7) q
  | cons z R ih =>
    intro F σ y c n left x7 l8 hE e7 en hy ty h eN hK
    have hE2 : y.2.2.2.2.2.2 = R.reverse ++ z :: F := by rw [hE, List.reverse_cons, List.append_assoc]; rfl
    have e7 : x7 = nI z.1 := by rw [e7, List.reverse_cons, ids_app]; exact lst_snoc _ _ _
    have e1y : x1 = nI y.1 := by rw [hy]; exact e1
    have hm : z ∈ y.2.2.2.2.2.2 := by rw [hE2]; exact List.mem_append_right _ List.mem_cons_self
    obtain ⟨hN, hP, v7⟩ := W_next h hE2 e7
    obtain ⟨hs, hh, ho⟩ := h.eid hm
    have hid := ho.1
    have el := lrE_len N piv (R.map (fun z => z.2))
    rw [List.length_map] at el
    have er : lrE N piv left ((z :: R).map (fun z => z.2)) = if N = 0 ∨ left < 0 then (if cmpW z.2.1 piv = 0 then lrE N piv (left + 1) (R.map (fun z => z.2)) else z.2 :: lrE N piv left (R.map (fun z => z.2))) else z.2 :: R.map (fun z => z.2) := rfl
    rw [er] at hK
    have stop : ¬ (N = 0 ∨ left < 0) → mjY mjPP (mjQQ Y) (d + 2) 112 86 [some (.ref 0), some (.int x1), some (.long n), none, some (.int 1), some (.long left), none, some (.int x7), l8] [] σ K := by
      intro no
      rw [if_neg no] at hK
      refine hK σ y n left x7 l8 ty Fr.rf hy h ?_ ?_
      · show st1 y = (y.2.1, y.2.2.1, y.2.2.2.1, tmN y.2.2.2.1 y.2.2.2.2.1, y.2.2.2.2.2.1, (z.2 :: R.map (fun z => z.2)).reverse ++ F.map (fun z => z.2))
        rw [← (show y.2.2.2.2.2.2.map (fun z => z.2) = (z.2 :: R.map (fun z => z.2)).reverse ++ F.map (fun z => z.2) by rw [hE, List.map_append, List.map_reverse]; rfl)]; rfl
      · rw [en, List.length_cons, List.length_cons, List.length_map, Nat.sub_self]; rfl
    -- one element is looked at
    have body : (N = 0 ∨ left < 0) → mjY mjPP (mjQQ Y) (d + 2) 112 54 [some (.ref 0), some (.int x1), some (.long n), none, some (.int 1), some (.long left), none, some (.int x7), l8] [] σ K := by
      intro yes
      rw [if_pos yes] at hK
      have go : ∀ x8 : Int32, x8 = lst (-1) (ids R.reverse) → mjY mjPP (mjQQ Y) (d + 2) 112 66 [some (.ref 0), some (.int x1), some (.long n), none, some (.int 1), some (.long left), none, some (.int x7), some (.int x8)] [] σ K := by
        intro x8 e8
        refine mjZ_y rfl rfl 4 _ _ _ _ ty ?_
        refine (And.intro (Nat.le_of_ble_eq_true rfl) (And.intro rfl (And.intro (Nat.le_of_ble_eq_true rfl) (And.intro (Nat.le_of_ble_eq_true rfl) (mjY_mono ty (fun q_ u1 ty1 h_ => ?_) (w_isWord h ty hm hp e7 (x2 := Int32.ofInt 3) rfl))))))
        obtain ⟨rfl, rfl⟩ := h_
        intro _
        refine mjZ_y rfl rfl 1 _ _ _ _ ty ?_
        refine And.intro (fun q => ?_) (fun q => ?_)
        · have q : ¬ cmpW z.2.1 piv = 0 := fun t => eqI_ne.mpr t q
          rw [if_neg q] at hK
          refine mjZ_y rfl rfl 3 _ _ _ _ ty ?_
          refine (And.intro (Nat.le_of_ble_eq_true rfl) ?_)
          refine ih (z :: F) u1 y c n left _ _ (hE2) e8 en hy ty h eN (fun u y' n' left' x7 l8 tu fu hy' hu es e' => hK u y' n' left' x7 l8 tu fu hy' hu ?_ ?_)
          · rw [es]; congr 1; funext _; rw [List.reverse_cons, List.append_assoc]; rfl
          · rw [e']; congr 1; rw [List.length_cons, List.length_cons]; have := el left; omega
        · have q : cmpW z.2.1 piv = 0 := eqI_ne.mp q
          rw [if_pos q] at hK
          refine mjZ_y rfl rfl 4 _ _ _ _ ty ?_
          refine (And.intro (Nat.le_of_ble_eq_true rfl) (And.intro rfl (And.intro (Nat.le_of_ble_eq_true rfl) (And.intro (Nat.le_of_ble_eq_true rfl) (mjY_mono ty (fun q_ u2 ty2 h_ => ?_) (w_unlink h ty hE2 e1y e7))))))
          obtain ⟨rfl, h2, f2⟩ := h_
          intro _
          refine mjZ_y rfl rfl 11 _ _ _ _ ty2 ?_
          refine (And.intro (Nat.le_of_ble_eq_true rfl) (And.intro (Nat.le_of_ble_eq_true rfl) (And.intro (Nat.le_of_ble_eq_true rfl) ?_)))
          refine ih F u2 (withE y (R.reverse ++ F)) (c + 1) _ _ _ _ rfl e8 (by rw [en]; exact lN_1 c) hy ty2 h2 (by rw [f2.2.1 _ (by decide)]; exact eN) (fun u y' n' left' x7 l8 tu fu hy' hu es e' => hK u y' n' left' x7 l8 tu (f2.tr fu) hy' hu ?_ ?_)
          · rw [es]; rfl
          · rw [e']; congr 1; rw [List.length_cons]; have := el (left + 1)
            show c + 1 + (R.length - (lrE N piv (left + 1) (R.map (fun z => z.2))).length) = _
            omega
      refine mjZ_y rfl rfl 2 _ _ _ _ ty ?_
      refine And.intro (fun q => ?_) (fun q => ?_)
      · exact absurd (show (1 : Int32) = 0 from q) (by decide)
      · refine mjZ_y rfl rfl 6 _ _ _ _ ty ?_
        refine (And.intro rfl (And.intro rfl (And.intro v7 (And.intro (Nat.le_of_ble_eq_true rfl) ?_))))
        exact go _ hP
    refine mjZ_y rfl rfl 2 _ _ _ _ ty ?_
    refine And.intro (fun q => ?_) (fun q => ?_)
    · exact absurd (show x7 < 0 from q) (lt_nI (by omega) e7)
    · have eN2 : σ.2.1 75 = N := eN
      refine mjZ_y rfl rfl 5 _ _ _ _ ty ?_
      refine (And.intro rfl (And.intro (fun c => ?_) (fun c => ?_)))
      · exact body (Or.inl (by rw [← eN2]; exact (lg_cmp_eq _ _).mp c))
      · have c : ¬ N = 0 := fun t => c ((lg_cmp_eq _ _).mpr (by rw [eN2]; exact t))
        refine mjZ_y rfl rfl 4 _ _ _ _ ty ?_
        refine And.intro (fun b => ?_) (fun b => ?_)
        · exact stop (fun t => t.elim c (fun t => Int64.not_lt.mpr ((lg_cmp_ge _ _).mp b) t))
        · exact body (Or.inr (Int64.not_le.mp (fun t => b ((lg_cmp_ge _ _).mpr t))))
def lrG (n : Int64) (piv : List Int32) (es : List AE) : List AE := if n < 0 then (lrE n piv n es.reverse).reverse else lrE n piv (if 0 < n then -n else n) es
theorem lrG_len (n : Int64) (piv : List Int32) (es : List AE) : (lrG n piv es).length ≤ es.length := by
  unfold lrG
  by_cases c : n < 0
  · rw [if_pos c, List.length_reverse]; have := lrE_len n piv es.reverse n; rw [List.length_reverse] at this; exact this
  · rw [if_neg c]; exact lrE_len _ _ _ _
theorem lrG_eq (n : Int64) (piv : List Int32) (es : List AE) (h : (lrG n piv es).length = es.length) : lrG n piv es = es := by
  unfold lrG at h ⊢
  by_cases c : n < 0
  · rw [if_pos c] at h ⊢
    rw [List.length_reverse] at h
    rw [lrE_eq n piv es.reverse n (by rw [h, List.length_reverse]), List.reverse_reverse]
  · rw [if_neg c] at h ⊢; exact lrE_eq _ _ _ _ h
def lrF (A : List AK) (w : List Int32) (n : Int64) (piv : List Int32) : Option (List AK) := match kyI A w with
  | none => none
  | some p => (match A[p]? with
    | none => none
    | some a => if (lrG n piv a.2.2.2.2.2).length = a.2.2.2.2.2.length then none else some (stlA A p (lrG n piv)))
set_option maxRecDepth 100000 in
theorem r_take {σ : mjS} {ws : List (List Int32)} {ks : List KR} {l : List Int32} (h : Wd σ ws ks l) (ty : mjTY σ) {w piv : List Int32} (h1 : ws[1]? = some w) (h3 : ws[3]? = some piv) (N : Int64) (eN : σ.2.1 f_n1 = N) (hs : l.length + 132 + sz ws ≤ 420000) :
    mjY mjPP (mjQQ Y) (d + 6) 112 0 (mjL0 9 [.ref 0]) [] σ (cmdK σ ws ks l 48 (lrF (strip ks) w N piv)) := by
  have hlen := (List.getElem?_eq_some_iff.mp h1).1
  have eN2 : σ.2.1 75 = N := eN
  refine mjZ_y rfl rfl 3 _ _ _ _ ty ?_
  refine (And.intro (Nat.le_of_ble_eq_true rfl) (And.intro rfl (And.intro (Nat.le_of_ble_eq_true rfl) (And.intro (Nat.le_of_ble_eq_true rfl) (mjY_mono ty (fun q_ u1 ty1 h_ => ?_) (w_key h ty h1 (x := Int32.ofInt 1) rfl))))))
  obtain ⟨rfl, rfl⟩ := h_
  intro _
  -- the end
  have fin : ∀ (u : mjS) (P Q : List KR) (y y' : KR) (x1 x4 x7 : Int32) (n left : Int64) (l8 : Option Value), ks = P ++ y :: Q → kyI (strip ks) w = some P.length → x1 = nI y.1 → mjTY u → Fr kF kH u1 u → y'.1 = y.1 → Wd u ws (P ++ y' :: Q) l → st1 y' = esF (lrG N piv) (st1 y) → n = lN (y.2.2.2.2.2.2.length - (lrG N piv (y.2.2.2.2.2.2.map (fun z => z.2))).length) → mjY mjPP (mjQQ Y) (d + 6) 112 86 [some (.ref 0), some (.int x1), some (.long n), none, some (.int x4), some (.long left), none, some (.int x7), l8] [] u (cmdK u1 ws ks l 48 (lrF (strip ks) w N piv)) := by
    intro u P Q y y' x1 x4 x7 n left l8 g0 g1 e1 tu fu hy hu es en
    subst g0
    have hle := W_len h
    have lg := lrG_len N piv (y.2.2.2.2.2.2.map (fun z => z.2))
    rw [List.length_map] at lg
    have eo : lrF (strip (P ++ y :: Q)) w N piv = if (lrG N piv (y.2.2.2.2.2.2.map (fun z => z.2))).length = y.2.2.2.2.2.2.length then none else some (stlA (strip (P ++ y :: Q)) P.length (lrG N piv)) := by
      unfold lrF; rw [g1]
      show (match (strip (P ++ y :: Q))[P.length]? with | none => none | some a => if (lrG N piv a.2.2.2.2.2).length = a.2.2.2.2.2.length then none else some (stlA (strip (P ++ y :: Q)) P.length (lrG N piv))) = _
      rw [strip_gt]
      show (if (lrG N piv (y.2.2.2.2.2.2.map (fun z => z.2))).length = (y.2.2.2.2.2.2.map (fun z => z.2)).length then none else some (stlA (strip (P ++ y :: Q)) P.length (lrG N piv))) = _
      rw [List.length_map]
    rw [eo]
    refine mjZ_y rfl rfl 4 _ _ _ _ tu ?_
    refine And.intro (fun c => ?_) (fun c => ?_)
    · have c : (lrG N piv (y.2.2.2.2.2.2.map (fun z => z.2))).length = y.2.2.2.2.2.2.length := by
        have c := (lg_cmp_le _ _).mp c
        rw [en] at c
        have c := (pk_lLE (b := 0) (by omega) (by decide)).mp c
        omega
      rw [if_pos c]
      have es2 : st1 y' = st1 y := by
        rw [es]; show (y.2.1, y.2.2.1, y.2.2.2.1, tmN y.2.2.2.1 y.2.2.2.2.1, y.2.2.2.2.2.1, lrG N piv (y.2.2.2.2.2.2.map (fun z => z.2))) = _
        rw [lrG_eq N piv _ (by rw [c, List.length_map])]; rfl
      refine mjZ_y rfl rfl 3 _ _ _ _ tu ?_
      refine (And.intro (Nat.le_of_ble_eq_true rfl) (And.intro rfl (And.intro (Nat.le_of_ble_eq_true rfl) (And.intro (Nat.le_of_ble_eq_true rfl) (mjY_mono tu (fun q_ u2 ty2 h_ => ?_) (w_number hu tu _))))))
      obtain ⟨rfl, h2, f2⟩ := h_
      intro _
      refine mjZ_y rfl rfl 1 _ _ _ _ ty2 ?_
      refine And.intro rfl (And.intro rfl ?_)
      refine ⟨rfl, fu.k.tr f2.c, _, h2, ?_⟩
      rw [strip_app, strip_cons, strip_app, strip_cons, es2]
    · have c : ¬ (lrG N piv (y.2.2.2.2.2.2.map (fun z => z.2))).length = y.2.2.2.2.2.2.length := by
        intro t
        refine c ((lg_cmp_le _ _).mpr ?_)
        rw [en, t, Nat.sub_self]; exact Int64.le_refl _
      rw [if_neg c]
      have hl5 := W_len hu
      refine mjZ_y rfl rfl 3 _ _ _ _ tu ?_
      refine (And.intro (Nat.le_of_ble_eq_true rfl) (And.intro rfl (And.intro (Nat.le_of_ble_eq_true rfl) (And.intro (Nat.le_of_ble_eq_true rfl) (mjY_mono tu (fun q_ u6 ty6 h_ => ?_) (w_settle hu tu (show x1 = nI y'.1 by rw [hy]; exact e1) (by omega)))))))
      obtain ⟨rfl, f6, h6⟩ := h_
      intro _
      have fb := fu.k.tr f6.k1
      rcases h6 with ⟨z, h6⟩ | ⟨z, h6⟩
      · refine mjZ_y rfl rfl 3 _ _ _ _ ty6 ?_
        refine (And.intro (Nat.le_of_ble_eq_true rfl) (And.intro rfl (And.intro (Nat.le_of_ble_eq_true rfl) (And.intro (Nat.le_of_ble_eq_true rfl) (mjY_mono ty6 (fun q_ u7 ty7 h_ => ?_) (w_noteAll h6 ty6 (by omega) 48 rfl (by decide) hs))))))
        obtain ⟨rfl, h7, f7⟩ := h_
        intro _
        refine mjZ_y rfl rfl 3 _ _ _ _ ty7 ?_
        refine (And.intro (Nat.le_of_ble_eq_true rfl) (And.intro rfl (And.intro (Nat.le_of_ble_eq_true rfl) (And.intro (Nat.le_of_ble_eq_true rfl) (mjY_mono ty7 (fun q_ u8 ty8 h_ => ?_) (w_number h7 ty7 _))))))
        obtain ⟨rfl, h8, f8⟩ := h_
        intro _
        refine mjZ_y rfl rfl 1 _ _ _ _ ty8 ?_
        refine And.intro rfl (And.intro rfl ?_)
        rw [ntA_fr fb] at h8
        exact ⟨rfl, (fb.tr f7.n).tr f8.c, _, h8, stl_nil es z⟩
      · refine mjZ_y rfl rfl 3 _ _ _ _ ty6 ?_
        refine (And.intro (Nat.le_of_ble_eq_true rfl) (And.intro rfl (And.intro (Nat.le_of_ble_eq_true rfl) (And.intro (Nat.le_of_ble_eq_true rfl) (mjY_mono ty6 (fun q_ u7 ty7 h_ => ?_) (w_noteAll h6 ty6 (by omega) 48 rfl (by decide) hs))))))
        obtain ⟨rfl, h7, f7⟩ := h_
        intro _
        refine mjZ_y rfl rfl 3 _ _ _ _ ty7 ?_
        refine (And.intro (Nat.le_of_ble_eq_true rfl) (And.intro rfl (And.intro (Nat.le_of_ble_eq_true rfl) (And.intro (Nat.le_of_ble_eq_true rfl) (mjY_mono ty7 (fun q_ u8 ty8 h_ => ?_) (w_number h7 ty7 _))))))
        obtain ⟨rfl, h8, f8⟩ := h_
        intro _
        refine mjZ_y rfl rfl 1 _ _ _ _ ty8 ?_
        refine And.intro rfl (And.intro rfl ?_)
        rw [ntA_fr fb] at h8
        exact ⟨rfl, (fb.tr f7.n).tr f8.c, _, h8, stl_cons es z⟩
  have none1 : ∀ (x4 : Int32) (left : Int64), kyI (strip ks) w = none → mjY mjPP (mjQQ Y) (d + 6) 112 43 [some (.ref 0), some (.int (kyS ks w)), some (.long 0), none, some (.int x4), some (.long left), none, some (.int (-1)), none] [] u1 (cmdK u1 ws ks l 48 (lrF (strip ks) w N piv)) := by
    intro x4 left kn
    have eo : lrF (strip ks) w N piv = none := by unfold lrF; rw [kn]
    rw [eo]
    refine mjZ_y rfl rfl 2 _ _ _ _ ty1 ?_
    refine And.intro (fun q => ?_) (fun q => ?_)
    · refine mjZ_y rfl rfl 4 _ _ _ _ ty1 ?_
      refine And.intro (fun c => ?_) (fun c => ?_)
      · refine mjZ_y rfl rfl 3 _ _ _ _ ty1 ?_
        refine (And.intro (Nat.le_of_ble_eq_true rfl) (And.intro rfl (And.intro (Nat.le_of_ble_eq_true rfl) (And.intro (Nat.le_of_ble_eq_true rfl) (mjY_mono ty1 (fun q_ u2 ty2 h_ => ?_) (w_number h ty1 _))))))
        obtain ⟨rfl, h2, f2⟩ := h_
        intro _
        refine mjZ_y rfl rfl 1 _ _ _ _ ty2 ?_
        refine And.intro rfl (And.intro rfl ?_)
        exact ⟨rfl, f2.c, ks, h2, rfl⟩
      · exact absurd ((lg_cmp_le _ _).mpr (Int64.le_refl _)) c
    · exact absurd (lt_m1 rfl) q
  have s27 : ∀ (x4 : Int32) (left : Int64), ((N < 0 ∧ x4 = 1 ∧ left = N) ∨ (¬ N < 0 ∧ x4 = 0 ∧ left = (if 0 < N then -N else N))) → mjY mjPP (mjQQ Y) (d + 6) 112 27 [some (.ref 0), some (.int (kyS ks w)), some (.long 0), none, some (.int x4), some (.long left), none, none, none] [] u1 (cmdK u1 ws ks l 48 (lrF (strip ks) w N piv)) := by
    intro x4 left hx
    refine mjZ_y rfl rfl 4 _ _ _ _ ty1 ?_
    refine (And.intro (Nat.le_of_ble_eq_true rfl) (And.intro (fun c => ?_) (fun c => ?_)))
    · exact none1 x4 left ((ky_ge h w).2.mp c)
    · have c : ¬ kyI (strip ks) w = none := fun z => c ((ky_ge h w).2.mpr z)
      obtain ⟨P, y, Q, g0, g1, g2, -⟩ := ky_some c
      have e1 : kyS ks w = nI y.1 := g2
      generalize kyS ks w = x1 at e1 none1
      have h' : Wd u1 ws (P ++ y :: Q) l := by rw [← g0]; exact h
      obtain ⟨kT, kHd, kM, vk⟩ := W_tail h' e1
      have hle := W_len h'
      rcases hx with ⟨hN, rfl, rfl⟩ | ⟨hN, rfl, e5⟩
      · refine mjZ_y rfl rfl 2 _ _ _ _ ty1 ?_
        refine And.intro (fun q => ?_) (fun q => ?_)
        · exact absurd (show (1 : Int32) = 0 from q) (by decide)
        · refine mjZ_y rfl rfl 6 _ _ _ _ ty1 ?_
          refine (And.intro rfl (And.intro rfl (And.intro vk (And.intro (Nat.le_of_ble_eq_true rfl) ?_))))
          refine c_lrem_b _ h3 y.1 x1 e1 left y.2.2.2.2.2.2.reverse [] u1 y 0 0 left _ _ (by rw [List.reverse_reverse, List.append_nil]) (by rw [List.reverse_reverse]; exact kT) rfl rfl ty1 h' eN (fun u y' n' left' x7 l8 tu fu hy hu es en => ?_)
          refine fin u P Q y y' x1 _ x7 n' left' l8 g0 g1 e1 tu fu hy hu ?_ ?_
          · rw [es]
            show (y.2.1, y.2.2.1, y.2.2.2.1, tmN y.2.2.2.1 y.2.2.2.2.1, y.2.2.2.2.2.1, (lrE left piv left (y.2.2.2.2.2.2.reverse.map (fun z => z.2))).reverse ++ []) = (y.2.1, y.2.2.1, y.2.2.2.1, tmN y.2.2.2.1 y.2.2.2.2.1, y.2.2.2.2.2.1, lrG left piv (y.2.2.2.2.2.2.map (fun z => z.2)))
            unfold lrG; rw [if_pos hN, List.append_nil, List.map_reverse]
          · rw [en]; unfold lrG; rw [if_pos hN, List.length_reverse, List.length_reverse, List.map_reverse, Nat.zero_add]
      · refine mjZ_y rfl rfl 2 _ _ _ _ ty1 ?_
        refine And.intro (fun q => ?_) (fun q => ?_)
        · refine mjZ_y rfl rfl 5 _ _ _ _ ty1 ?_
          refine (And.intro rfl (And.intro rfl (And.intro vk (And.intro (Nat.le_of_ble_eq_true rfl) ?_))))
          refine c_lrem_f _ h3 y.1 x1 e1 N y.2.2.2.2.2.2 [] u1 y 0 0 left _ _ rfl kHd rfl rfl ty1 h' eN (fun u y' n' left' x7 l8 tu fu hy hu es en => ?_)
          refine fin u P Q y y' x1 _ x7 n' left' l8 g0 g1 e1 tu fu hy hu ?_ ?_
          · rw [es]
            show (y.2.1, y.2.2.1, y.2.2.2.1, tmN y.2.2.2.1 y.2.2.2.2.1, y.2.2.2.2.2.1, [] ++ lrE N piv left (y.2.2.2.2.2.2.map (fun z => z.2))) = (y.2.1, y.2.2.1, y.2.2.2.1, tmN y.2.2.2.1 y.2.2.2.2.1, y.2.2.2.2.2.1, lrG N piv (y.2.2.2.2.2.2.map (fun z => z.2)))
            unfold lrG; rw [if_neg hN, e5]; rfl
          · rw [en]; unfold lrG; rw [if_neg hN, e5, Nat.zero_add]
        · exact absurd rfl q
  have s15 : ∀ x4 : Int32, ((N < 0 ∧ x4 = 1) ∨ (¬ N < 0 ∧ x4 = 0)) → mjY mjPP (mjQQ Y) (d + 6) 112 15 [some (.ref 0), some (.int (kyS ks w)), some (.long 0), none, some (.int x4), none, none, none, none] [] u1 (cmdK u1 ws ks l 48 (lrF (strip ks) w N piv)) := by
    intro x4 hx
    refine mjZ_y rfl rfl 5 _ _ _ _ ty1 ?_
    refine (And.intro rfl (And.intro (fun c => ?_) (fun c => ?_)))
    · have c : ¬ 0 < N := by have c := (lg_cmp_le _ _).mp c; rw [eN2] at c; exact Int64.not_lt.mpr c
      refine mjZ_y rfl rfl 3 _ _ _ _ ty1 ?_
      refine (And.intro rfl (And.intro (Nat.le_of_ble_eq_true rfl) ?_))
      refine s27 x4 _ ?_
      rw [eN2, if_neg c]
      rcases hx with ⟨a, b⟩ | ⟨a, b⟩
      · exact Or.inl ⟨a, b, rfl⟩
      · exact Or.inr ⟨a, b, rfl⟩
    · have c : 0 < N := Int64.not_le.mp (fun z => c ((lg_cmp_le _ _).mpr (by rw [eN2]; exact z)))
      refine mjZ_y rfl rfl 5 _ _ _ _ ty1 ?_
      refine (And.intro rfl (And.intro (Nat.le_of_ble_eq_true rfl) ?_))
      refine s27 x4 _ ?_
      rw [eN2, if_pos c]
      rcases hx with ⟨a, b⟩ | ⟨a, b⟩
      · exact absurd a (Int64.not_lt.mpr (Int64.le_of_lt c))
      · exact Or.inr ⟨a, b, rfl⟩
  refine mjZ_y rfl rfl 8 _ _ _ _ ty1 ?_
  refine (And.intro (Nat.le_of_ble_eq_true rfl) (And.intro (Nat.le_of_ble_eq_true rfl) (And.intro rfl (And.intro (fun c => ?_) (fun c => ?_)))))
  · have c : ¬ N < 0 := by have c := (lg_cmp_ge _ _).mp c; rw [eN2] at c; exact Int64.not_lt.mpr c
    refine mjZ_y rfl rfl 2 _ _ _ _ ty1 ?_
    refine (And.intro (Nat.le_of_ble_eq_true rfl) ?_)
    exact s15 _ (Or.inr ⟨c, rfl⟩)
  · have c : N < 0 := Int64.not_le.mp (fun z => c ((lg_cmp_ge _ _).mpr (by rw [eN2]; exact z)))
    refine mjZ_y rfl rfl 3 _ _ _ _ ty1 ?_
    refine (And.intro (Nat.le_of_ble_eq_true rfl) ?_)
    exact s15 _ (Or.inl ⟨c, rfl⟩)
end LREM
