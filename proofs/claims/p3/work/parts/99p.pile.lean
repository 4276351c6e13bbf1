/-! The pile of members: inAll, inAny, addMember. -/
section PILE
variable {Y : Nat → MethodName × ByteArray} {d : Nat}
def alT (A : List AK) (v : List Int32) : List (List Int32) → Bool
  | [] => true
  | w :: r => mbT A w v && alT A v r
def anT (A : List AK) (v : List Int32) : List (List Int32) → Bool
  | [] => false
  | w :: r => mbT A w v || anT A v r
set_option maxRecDepth 100000 in
/-- seek of an element's own word in the key of a name -/
theorem w_seekE {σ : mjS} {ws : List (List Int32)} {ks : List KR} {l : List Int32} (h : Wd σ ws ks l) (ty : mjTY σ) {P Q : List KR} {y : KR} {z : ER} (g0 : ks = P ++ y :: Q) (hz : z ∈ y.2.2.2.2.2.2) (w : List Int32) {x1 xe : Int32} (e1 : x1 = kyS ks w) (ee : xe = nI z.1) : mjY mjPP (mjQQ Y) (d + 1) 115 0 (mjL0 7 [.ref 0, .int x1, .ref r_heap, .int (σ.2.2.1 r_eAt xe.toNatClampNeg), .int (σ.2.2.1 r_eLen xe.toNatClampNeg)]) [] σ (fun q u => ∃ r, q = some (.int r) ∧ Fr [f_found] [] σ u ∧ Wd u ws ks l ∧ ((mbT (strip ks) w z.2.1 = true ∧ ¬ r < 0) ∨ (¬ mbT (strip ks) w z.2.1 = true ∧ r < 0))) := by
  have h' : Wd σ ws (P ++ y :: Q) l := by rw [← g0]; exact h
  obtain ⟨hs, hh, ho⟩ := h'.eid hz
  have zid := ho.1
  obtain ⟨a, ea, el, ha, ew⟩ := ho.2.1.clamp hh (by omega) ee
  by_cases c : kyI (strip ks) w = none
  · have nm : ¬ mbT (strip ks) w z.2.1 = true := by
      rw [mbT_iff]; intro q; obtain ⟨p, a, z1, -⟩ := q; rw [c] at z1; cases z1
    refine mjY_mono ty (fun _ u _ q => ?_) (w_seek0 ty r_heap (e1.trans (ky_none c)))
    exact ⟨-1, q.1, q.2, h.fr q.2 (by decide) (by decide), Or.inr ⟨nm, by decide⟩⟩
  · obtain ⟨P2, y2, Q2, g2, g3, g4, -⟩ := ky_some c
    have h2 : Wd σ ws (P2 ++ y2 :: Q2) l := by rw [← g2]; exact h
    refine mjY_mono ty (fun _ u _ q => ?_) (w_seek h2 ty r_heap a z.2.1.length rfl ha (by decide) (e1.trans g4) ea el ew)
    obtain ⟨F1, F2, r, rfl, f1, hF, hl, -, hr⟩ := q
    refine ⟨r, rfl, f1, h.fr f1 (by decide) (by decide), ?_⟩
    have em : mbT (strip ks) w z.2.1 = true ↔ skB z.2.1 (y2.2.2.2.2.2.2.map (fun z => z.2)) := by
      rw [mbT_iff, g2]; exact mbA_at (by rw [← g2]; exact g3)
    rw [em]
    rcases hr with ⟨b, t, F3, hF3, er⟩ | ⟨b, er⟩
    · have tid := (h2.eid (y := t) (by rw [hF, hF3]; exact List.mem_append_right _ List.mem_cons_self)).elim (fun _ k => k.2.1)
      exact Or.inl ⟨b, lt_nI (by omega) er⟩
    · exact Or.inr ⟨b, lt_m1 er⟩
set_option maxRecDepth 100000 in
theorem c_inAll (K : mjK) {ws : List (List Int32)} {ks : List KR} {l : List Int32} {P Q : List KR} {y : KR} {z : ER} (g0 : ks = P ++ y :: Q) (hz : z ∈ y.2.2.2.2.2.2) (xe x2 : Int32) (ee : xe = nI z.1) : ∀ (m a : Nat) (σ : mjS) (x3 : Int32), a + m = ws.length → x3 = nI a → mjTY σ → Wd σ ws ks l → (∀ u, Fr [f_found] [] σ u → Wd u ws ks l → K (some (.int (if alT (strip ks) z.2.1 (ws.drop a) = true then 1 else 0))) u) →
    mjY mjPP (mjQQ Y) (d + 3) 126 2 [some (.ref 0), some (.int xe), some (.int x2), some (.int x3)] [] σ K := by
  intro m
  induction m with
  | zero =>
    intro a σ x3 ha e3 ty h hK
    have h1024 := h.2.1.2.1
    rw [List.drop_of_length_le (by omega)] at hK
    refine mjZ_y rfl rfl 4 _ _ _ _ ty ?_
    refine (And.intro rfl (And.intro (fun q => ?_) (fun q => ?_)))
    · refine mjZ_y rfl rfl 2 _ _ _ _ ty ?_
      refine And.intro rfl (And.intro (Or.inr ⟨rfl, Or.inr rfl⟩) ?_)
      exact hK σ Fr.rf h
    · exact absurd (show σ.1 f_words ≤ x3 by rw [h.2.1.1, e3]; exact nI_le (by omega) (by omega)) q
  | succ m ih =>
    intro a σ x3 ha e3 ty h hK
    have h1024 := h.2.1.2.1
    obtain ⟨w, hw, ed⟩ := drop1 ha
    rw [ed] at hK
    have eA : alT (strip ks) z.2.1 (w :: ws.drop (a + 1)) = (mbT (strip ks) w z.2.1 && alT (strip ks) z.2.1 (ws.drop (a + 1))) := rfl
    rw [eA] at hK
    have h' : Wd σ ws (P ++ y :: Q) l := by rw [← g0]; exact h
    have zid := (h'.eid hz).elim (fun _ k => k.2.1)
    have ve : vp_in xe 10000 := by rw [ee]; exact vp_in_nI zid (by decide)
    refine mjZ_y rfl rfl 4 _ _ _ _ ty ?_
    refine (And.intro rfl (And.intro (fun q => ?_) (fun q => ?_)))
    · exact absurd (show σ.1 f_words ≤ x3 from q) (by rw [h.2.1.1, e3]; exact nI_ge (by omega) (by omega))
    · refine mjZ_y rfl rfl 4 _ _ _ _ ty ?_
      refine (And.intro (Nat.le_of_ble_eq_true rfl) (And.intro rfl (And.intro (Nat.le_of_ble_eq_true rfl) (And.intro (Nat.le_of_ble_eq_true rfl) (mjY_mono ty (fun q_ u1 ty1 h_ => ?_) (w_key h ty hw e3))))))
      obtain ⟨rfl, rfl⟩ := h_
      intro _
      refine mjZ_y rfl rfl 11 _ _ _ _ ty ?_
      refine (And.intro rfl (And.intro rfl (And.intro rfl (And.intro ve (And.intro rfl (And.intro rfl (And.intro ve (And.intro (Nat.le_of_ble_eq_true rfl) (And.intro rfl (And.intro (Nat.le_of_ble_eq_true rfl) (And.intro (Nat.le_of_ble_eq_true rfl) (mjY_mono ty (fun q_ u2 ty2 h_ => ?_) (w_seekE h ty g0 hz w rfl ee)))))))))))))
      obtain ⟨r, rfl, f2, h2, hr⟩ := h_
      intro _
      refine mjZ_y rfl rfl 1 _ _ _ _ ty2 ?_
      refine And.intro (fun c => ?_) (fun c => ?_)
      · rcases hr with ⟨b, -⟩ | ⟨-, b⟩
        · rw [b, Bool.true_and] at hK
          refine mjZ_y rfl rfl 2 _ _ _ _ ty2 ?_
          exact ih (a + 1) u2 _ (by omega) (by rw [e3]; exact nI_1 a) ty2 h2 (fun u fu hu => hK u (f2.tr fu) hu)
        · exact absurd b (Int32.not_lt.mpr c)
      · rcases hr with ⟨-, b⟩ | ⟨b, -⟩
        · exact absurd (Int32.not_lt.mp b) c
        · have eb : mbT (strip ks) w z.2.1 = false := by cases hm : mbT (strip ks) w z.2.1; rfl; exact absurd hm b
          rw [eb, Bool.false_and] at hK
          refine mjZ_y rfl rfl 2 _ _ _ _ ty2 ?_
          refine And.intro rfl (And.intro (Or.inr ⟨rfl, Or.inl rfl⟩) ?_)
          exact hK u2 f2 h2
set_option maxRecDepth 100000 in
theorem c_inAny (K : mjK) {ws : List (List Int32)} {ks : List KR} {l : List Int32} {P Q : List KR} {y : KR} {z : ER} (g0 : ks = P ++ y :: Q) (hz : z ∈ y.2.2.2.2.2.2) (xe x2 x3 : Int32) (ee : xe = nI z.1) (e : Nat) (e3 : x3 = nI e) : ∀ (m a : Nat) (σ : mjS) (x4 : Int32), a + m = e → e ≤ ws.length → x4 = nI a → mjTY σ → Wd σ ws ks l → (∀ u, Fr [f_found] [] σ u → Wd u ws ks l → K (some (.int (if anT (strip ks) z.2.1 ((ws.drop a).take m) = true then 1 else 0))) u) →
    mjY mjPP (mjQQ Y) (d + 3) 127 2 [some (.ref 0), some (.int xe), some (.int x2), some (.int x3), some (.int x4)] [] σ K := by
  intro m
  induction m with
  | zero =>
    intro a σ x4 ha hle e4 ty h hK
    have h1024 := h.2.1.2.1
    refine mjZ_y rfl rfl 3 _ _ _ _ ty ?_
    refine And.intro (fun q => ?_) (fun q => ?_)
    · refine mjZ_y rfl rfl 2 _ _ _ _ ty ?_
      refine And.intro rfl (And.intro (Or.inr ⟨rfl, Or.inl rfl⟩) ?_)
      exact hK σ Fr.rf h
    · exact absurd (show x3 ≤ x4 by rw [e3, e4]; exact nI_le (by omega) (by omega)) q
  | succ m ih =>
    intro a σ x4 ha hle e4 ty h hK
    have h1024 := h.2.1.2.1
    obtain ⟨w, hw, ed⟩ := drop1 (ws := ws) (a := a) (m := ws.length - a - 1) (by omega)
    rw [ed, List.take_succ_cons] at hK
    have eA : anT (strip ks) z.2.1 (w :: (ws.drop (a + 1)).take m) = (mbT (strip ks) w z.2.1 || anT (strip ks) z.2.1 ((ws.drop (a + 1)).take m)) := rfl
    rw [eA] at hK
    have h' : Wd σ ws (P ++ y :: Q) l := by rw [← g0]; exact h
    have zid := (h'.eid hz).elim (fun _ k => k.2.1)
    have ve : vp_in xe 10000 := by rw [ee]; exact vp_in_nI zid (by decide)
    refine mjZ_y rfl rfl 3 _ _ _ _ ty ?_
    refine And.intro (fun q => ?_) (fun q => ?_)
    · exact absurd (show x3 ≤ x4 from q) (by rw [e3, e4]; exact nI_ge (by omega) (by omega))
    · refine mjZ_y rfl rfl 4 _ _ _ _ ty ?_
      refine (And.intro (Nat.le_of_ble_eq_true rfl) (And.intro rfl (And.intro (Nat.le_of_ble_eq_true rfl) (And.intro (Nat.le_of_ble_eq_true rfl) (mjY_mono ty (fun q_ u1 ty1 h_ => ?_) (w_key h ty hw e4))))))
      obtain ⟨rfl, rfl⟩ := h_
      intro _
      refine mjZ_y rfl rfl 11 _ _ _ _ ty ?_
      refine (And.intro rfl (And.intro rfl (And.intro rfl (And.intro ve (And.intro rfl (And.intro rfl (And.intro ve (And.intro (Nat.le_of_ble_eq_true rfl) (And.intro rfl (And.intro (Nat.le_of_ble_eq_true rfl) (And.intro (Nat.le_of_ble_eq_true rfl) (mjY_mono ty (fun q_ u2 ty2 h_ => ?_) (w_seekE h ty g0 hz w rfl ee)))))))))))))
      obtain ⟨r, rfl, f2, h2, hr⟩ := h_
      intro _
      refine mjZ_y rfl rfl 1 _ _ _ _ ty2 ?_
      refine And.intro (fun c => ?_) (fun c => ?_)
      · rcases hr with ⟨-, b⟩ | ⟨b, -⟩
        · exact absurd c b
        · have eb : mbT (strip ks) w z.2.1 = false := by cases hm : mbT (strip ks) w z.2.1; rfl; exact absurd hm b
          rw [eb, Bool.false_or] at hK
          refine mjZ_y rfl rfl 2 _ _ _ _ ty2 ?_
          exact ih (a + 1) u2 _ (by omega) hle (by rw [e4]; exact nI_1 a) ty2 h2 (fun u fu hu => hK u (f2.tr fu) hu)
      · rcases hr with ⟨b, -⟩ | ⟨-, b⟩
        · rw [b, Bool.true_or] at hK
          refine mjZ_y rfl rfl 2 _ _ _ _ ty2 ?_
          refine And.intro rfl (And.intro (Or.inr ⟨rfl, Or.inr rfl⟩) ?_)
          exact hK u2 f2 h2
        · exact absurd b c
/-- the members of the pile -/
def PIL (σ : mjS) (ms : List (List Int32)) : Prop := σ.1 f_members = nI ms.length ∧ σ.1 f_pileSize = nI (sl ms) ∧ ∀ (i : Nat) (m : List Int32), ms[i]? = some m → ∃ a : Nat, σ.2.2.1 r_mAt i = nI a ∧ σ.2.2.1 r_mLen i = nI m.length ∧ a + m.length ≤ sl ms ∧ wd (σ.2.2.1 r_pile) a m.length = m
theorem PIL.fr {σ u : mjS} {fs hs : List Nat} {ms : List (List Int32)} (h : PIL σ ms) (f : Fr fs hs σ u) (h1 : f_members ∉ fs) (h2 : f_pileSize ∉ fs) (h3 : r_mAt ∉ hs) (h4 : r_mLen ∉ hs) (h5 : r_pile ∉ hs) : PIL u ms := by
  unfold PIL
  rw [f.1 _ h1, f.1 _ h2, (f.2.2 _ h3).1, (f.2.2 _ h4).1, (f.2.2 _ h5).1]
  exact h
def amR (v : List Int32) : List (List Int32) → Nat
  | [] => 0
  | m :: r => if 0 < cmpW m v then amR v r + 1 else 0
theorem amR_le (v : List Int32) : ∀ r, amR v r ≤ r.length := by
  intro r
  induction r with
  | nil => exact Nat.le_refl _
  | cons m r ih => show (if 0 < cmpW m v then amR v r + 1 else 0) ≤ r.length + 1; split <;> omega
def amE (v : List Int32) (ms : List (List Int32)) : List (List Int32) := ms.take (ms.length - amR v ms.reverse) ++ v :: ms.drop (ms.length - amR v ms.reverse)
theorem sl_app (a b : List (List Int32)) : sl (a ++ b) = sl a + sl b := by
  induction a with
  | nil => simp [sl]
  | cons w r ih => show w.length + sl (r ++ b) = w.length + sl r + sl b; omega
theorem amE_m (v : List Int32) (ms : List (List Int32)) : (amE v ms).length = ms.length + 1 ∧ sl (amE v ms) = sl ms + v.length := by
  unfold amE
  generalize ms.length - amR v ms.reverse = p
  have e : sl ms = sl (ms.take p) + sl (ms.drop p) := by rw [← sl_app, List.take_append_drop]
  have e2 : ms.length = (ms.take p).length + (ms.drop p).length := by rw [← List.length_append, List.take_append_drop]
  refine ⟨by rw [List.length_append, List.length_cons]; omega, ?_⟩
  rw [sl_app]; show _ + (v.length + sl (ms.drop p)) = _; omega
set_option maxRecDepth 100000 in
theorem c_am_loop (K : mjK) {ws : List (List Int32)} {P Q : List KR} {y : KR} {l : List Int32} {z : ER} (hz : z ∈ y.2.2.2.2.2.2) (xe : Int32) (ee : xe = nI z.1) (ms : List (List Int32)) (hN : ms.length < 10000) (hsz : sl ms ≤ 200000) (A0 L0 : Nat → Int32) : ∀ (R S : List (List Int32)) (σ : mjS) (x2 : Int32), ms = R.reverse ++ S → x2 = nI R.length → mjTY σ → Wd σ ws (P ++ y :: Q) l → (∀ (i : Nat) (m : List Int32), ms[i]? = some m → ∃ a : Nat, A0 i = nI a ∧ L0 i = nI m.length ∧ a + m.length ≤ sl ms ∧ wd (σ.2.2.1 r_pile) a m.length = m) → (∀ j, σ.2.2.1 r_mAt j = if R.length < j ∧ j ≤ ms.length then A0 (j - 1) else A0 j) → (∀ j, σ.2.2.1 r_mLen j = if R.length < j ∧ j ≤ ms.length then L0 (j - 1) else L0 j) →
    (∀ u x2 F1 F2, mjTY u → Fr [] [r_mAt, r_mLen] σ u → ms = F1 ++ F2 → F2.length = S.length + amR z.2.1 R → x2 = nI F1.length → (∀ j, u.2.2.1 r_mAt j = if F1.length < j ∧ j ≤ ms.length then A0 (j - 1) else A0 j) → (∀ j, u.2.2.1 r_mLen j = if F1.length < j ∧ j ≤ ms.length then L0 (j - 1) else L0 j) → mjY mjPP (mjQQ Y) (d + 1) 128 53 [some (.ref 0), some (.int xe), some (.int x2), none] [] u K) →
    mjY mjPP (mjQQ Y) (d + 1) 128 3 [some (.ref 0), some (.int xe), some (.int x2), none] [] σ K := by
  intro R
  induction R with
  | nil =>
    intro S σ x2 hms e2 ty h hp hA hL hK
    refine mjZ_y rfl rfl 2 _ _ _ _ ty ?_
    refine And.intro (fun q => ?_) (fun q => ?_)
    · exact hK σ x2 [] S ty Fr.rf hms rfl e2 hA hL
    · exact absurd (show x2 ≤ 0 by rw [e2]; decide) q
  | cons m R ih =>
    intro S σ x2 hms e2 ty h hp hA hL hK
    rw [List.length_cons] at e2 hA hL
    have hms2 : ms = R.reverse ++ m :: S := by rw [hms, List.reverse_cons, List.append_assoc]; rfl
    have hlen : ms.length = R.length + 1 + S.length := by rw [hms2, List.length_append, List.length_reverse, List.length_cons]; omega
    obtain ⟨hs, hh, ho⟩ := h.eid hz
    have zid := ho.1
    have ve : vp_in xe 10000 := by rw [ee]; exact vp_in_nI zid (by decide)
    have es : x2 - Int32.ofInt 1 = nI R.length := by rw [e2]; exact pk_sub (b := 1) (by omega)
    have cs : (x2 - Int32.ofInt 1).toNatClampNeg = R.length := by rw [es]; exact nI_clamp (by omega)
    have vs : vp_in (x2 - Int32.ofInt 1) 10000 := by rw [es]; exact vp_in_nI (by omega) (by decide)
    have v2 : vp_in x2 10000 := by rw [e2]; exact vp_in_nI (by omega) (by decide)
    have c2 : x2.toNatClampNeg = R.length + 1 := by rw [e2]; exact nI_clamp (by omega)
    have ea : x2 + Int32.ofInt (-1) = nI R.length := by rw [e2]; exact pk_m1 R.length
    obtain ⟨a, a1, a2, a3, a4⟩ := hp R.length m (by rw [hms2, List.getElem?_append_right (by rw [List.length_reverse]; exact Nat.le_refl _), List.length_reverse, Nat.sub_self]; rfl)
    have rA : σ.2.2.1 r_mAt (x2 - Int32.ofInt 1).toNatClampNeg = nI a := by rw [cs, hA, if_neg (by omega)]; exact a1
    have rL : σ.2.2.1 r_mLen (x2 - Int32.ofInt 1).toNatClampNeg = nI m.length := by rw [cs, hL, if_neg (by omega)]; exact a2
    obtain ⟨b, eb, el, hb, ew⟩ := ho.2.1.clamp hh (by omega) ee
    have hc := c_compare (Y := Y) (d := d) r_pile r_heap a m.length b z.2.1.length rfl rfl (by show a + m.length ≤ 200000; omega) hb (by decide) (by decide) ty
    rw [← rA, ← rL, ← eb, ← el] at hc
    have er : amR z.2.1 (m :: R) = if 0 < cmpW m z.2.1 then amR z.2.1 R + 1 else 0 := rfl
    rw [er] at hK
    have r0 : (0 : Int32).toInt = 0 := by decide
    refine mjZ_y rfl rfl 2 _ _ _ _ ty ?_
    refine And.intro (fun q => ?_) (fun q => ?_)
    · exact absurd (show x2 ≤ nI 0 from q) (by rw [e2]; exact nI_ge (by omega) (by omega))
    · refine mjZ_y rfl rfl 25 _ _ _ _ ty ?_
      refine (And.intro rfl (And.intro rfl (And.intro rfl (And.intro vs (And.intro rfl (And.intro rfl (And.intro vs (And.intro rfl (And.intro rfl (And.intro rfl (And.intro ve (And.intro rfl (And.intro rfl (And.intro ve (And.intro (Nat.le_of_ble_eq_true rfl) (And.intro (Nat.le_of_ble_eq_true rfl) (And.intro (Nat.le_of_ble_eq_true rfl) (mjY_mono ty (fun q_ u1 ty1 h_ => ?_) (hc)))))))))))))))))))
      obtain ⟨rfl, r, rfl, hr⟩ := h_
      intro _
      rw [a4, ew] at hr
      refine mjZ_y rfl rfl 1 _ _ _ _ ty ?_
      refine And.intro (fun c => ?_) (fun c => ?_)
      · have c := Int32.le_iff_toInt_le.mp (show r ≤ 0 from c)
        rw [r0, hr] at c
        rw [if_neg (by omega)] at hK
        exact hK u1 x2 (m :: R).reverse S ty Fr.rf hms rfl (by rw [List.length_reverse, List.length_cons]; exact e2) (by rw [List.length_reverse, List.length_cons]; exact hA) (by rw [List.length_reverse, List.length_cons]; exact hL)
      · have c : 0 < cmpW m z.2.1 := by
          refine Int.lt_of_not_ge (fun t => c (show r ≤ 0 from ?_))
          rw [Int32.le_iff_toInt_le, r0, hr]; exact t
        rw [if_pos c] at hK
        refine mjZ_y rfl rfl 22 _ _ _ _ ty ?_
        refine (And.intro rfl (And.intro rfl (And.intro rfl (And.intro vs (And.intro rfl (And.intro v2 (fun ty' => (And.intro rfl (And.intro rfl (And.intro rfl (And.intro vs (And.intro rfl (And.intro v2 (fun ty'' => ?_))))))))))))))
        have go : ∀ u : mjS, mjTY u → u = (u1.1, u1.2.1, mjIu (mjIu u1.2.2.1 r_mAt x2.toNatClampNeg (u1.2.2.1 r_mAt (x2 - Int32.ofInt 1).toNatClampNeg)) r_mLen x2.toNatClampNeg (u1.2.2.1 r_mLen (x2 - Int32.ofInt 1).toNatClampNeg), u1.2.2.2) → mjY mjPP (mjQQ Y) (d + 1) 128 3 [some (.ref 0), some (.int xe), some (.int (x2 + Int32.ofInt (-1))), none] [] u K := by
          intro u tu eu
          have fu : Fr [] [r_mAt, r_mLen] u1 u := by rw [eu]; exact (Fr.a (h := r_mAt) (by decide)).tr (Fr.a (h := r_mLen) (by decide))
          refine ih (m :: S) u _ hms2 ea tu (h.fr fu (by decide) (by decide)) (by rw [(fu.2.2 r_pile (by decide)).1]; exact hp) (fun j => ?_) (fun j => ?_) (fun v x2 F1 F2 tv fv g1 g2 g3 g4 g5 => hK v x2 F1 F2 tv (fu.tr fv) g1 (by rw [g2, List.length_cons]; omega) g3 g4 g5)
          · rw [eu]
            show mjIu (mjIu u1.2.2.1 r_mAt x2.toNatClampNeg (u1.2.2.1 r_mAt (x2 - Int32.ofInt 1).toNatClampNeg)) r_mLen x2.toNatClampNeg (u1.2.2.1 r_mLen (x2 - Int32.ofInt 1).toNatClampNeg) r_mAt j = _
            rw [mjIu_ne (by decide), mjIu_s, c2, cs, hA, hA]
            by_cases c3 : j = R.length + 1
            · rw [if_pos c3, if_neg (by omega), if_pos (by omega), c3]; rfl
            · rw [if_neg c3]
              by_cases c4 : R.length + 1 < j ∧ j ≤ ms.length
              · rw [if_pos c4, if_pos (by omega)]
              · rw [if_neg c4, if_neg (by omega)]
          · rw [eu]
            show mjIu (mjIu u1.2.2.1 r_mAt x2.toNatClampNeg (u1.2.2.1 r_mAt (x2 - Int32.ofInt 1).toNatClampNeg)) r_mLen x2.toNatClampNeg (u1.2.2.1 r_mLen (x2 - Int32.ofInt 1).toNatClampNeg) r_mLen j = _
            rw [mjIu_s, mjIu_ne (by decide), c2, cs, hL, hL]
            by_cases c3 : j = R.length + 1
            · rw [if_pos c3, if_neg (by omega), if_pos (by omega), c3]; rfl
            · rw [if_neg c3]
              by_cases c4 : R.length + 1 < j ∧ j ≤ ms.length
              · rw [if_pos c4, if_pos (by omega)]
              · rw [if_neg c4, if_neg (by omega)]
        exact go _ ty'' rfl
set_option maxRecDepth 100000 in
theorem c_am_cpy (K : mjK) (xe x2 : Int32) (e : Nat) (ee : xe = nI e) (he : e < 10000) (a n z : Nat) (han : a + n ≤ 300000) (hzn : z + n ≤ 200000) (H W0 : Nat → Int32) : ∀ (j i : Nat) (σ : mjS) (x3 : Int32), x3 = nI i → i + j = n → mjTY σ → σ.1 f_pileSize = nI z → σ.2.2.1 r_eLen e = nI n → σ.2.2.1 r_eAt e = nI a → σ.2.2.1 r_heap = H → σ.2.2.1 r_pile = va_cpy H W0 a z i →
    (∀ u x3, mjTY u → Fr [] [r_pile] σ u → u.2.2.1 r_pile = va_cpy H W0 a z n → mjY mjPP (mjQQ Y) d 128 93 [some (.ref 0), some (.int xe), some (.int x2), some (.int x3)] [] u K) → mjY mjPP (mjQQ Y) d 128 69 [some (.ref 0), some (.int xe), some (.int x2), some (.int x3)] [] σ K := by
  have ce : xe.toNatClampNeg = e := by rw [ee]; exact nI_clamp (by omega)
  have ve : vp_in xe 10000 := by rw [ee]; exact vp_in_nI he (by decide)
  intro j
  induction j with
  | zero =>
    intro i σ x3 e3 hi ty ez eL eA eH eW hK
    have ei : i = n := by omega
    subst ei
    refine mjZ_y rfl rfl 6 _ _ _ _ ty ?_
    refine (And.intro rfl (And.intro rfl (And.intro ve (And.intro (fun q => ?_) (fun q => ?_)))))
    · exact hK σ _ ty Fr.rf eW
    · exact absurd (show σ.2.2.1 r_eLen xe.toNatClampNeg ≤ x3 by rw [ce, eL, e3]; exact nI_le (Nat.le_refl _) (by omega)) q
  | succ j ih =>
    intro i σ x3 e3 hi ty ez eL eA eH eW hK
    have e5 : σ.2.2.1 r_eAt xe.toNatClampNeg + x3 = nI (a + i) := by rw [ce, eA, e3, nI_add]
    have e6 : σ.1 f_pileSize + x3 = nI (z + i) := by rw [ez, e3, nI_add]
    have w5 : vp_in (σ.2.2.1 r_eAt xe.toNatClampNeg + x3) 300000 := by rw [e5]; exact vp_in_nI (by omega) (by decide)
    have w6 : vp_in (σ.1 f_pileSize + x3) 200000 := by rw [e6]; exact vp_in_nI (by omega) (by decide)
    refine mjZ_y rfl rfl 6 _ _ _ _ ty ?_
    refine (And.intro rfl (And.intro rfl (And.intro ve (And.intro (fun q => ?_) (fun q => ?_)))))
    · exact absurd (show σ.2.2.1 r_eLen xe.toNatClampNeg ≤ x3 from q) (by rw [ce, eL, e3]; exact nI_ge (by omega) (by omega))
    · refine mjZ_y rfl rfl 18 _ _ _ _ ty ?_
      refine (And.intro rfl (And.intro rfl (And.intro rfl (And.intro rfl (And.intro rfl (And.intro ve (And.intro (Or.inl rfl) (And.intro w5 (And.intro (Or.inl ⟨rfl, ty.2.1 6 _ rfl⟩) (And.intro w6 (fun ty' => ?_)))))))))))
      refine ih (i + 1) _ _ (by rw [e3]; exact nI_1 i) (by omega) ty' ez eL eA eH ?_ (fun u x tu fu pu => hK u x tu ((Fr.a (by decide)).tr fu) pu)
      show mjIu σ.2.2.1 r_pile (σ.1 f_pileSize + x3).toNatClampNeg (σ.2.2.1 r_heap (σ.2.2.1 r_eAt xe.toNatClampNeg + x3).toNatClampNeg) r_pile = _
      rw [mjIu_self, e5, nI_clamp (by omega), eW, e6, nI_clamp (by omega), eH]
      exact cpy_s
abbrev pF : List Nat := [f_members, f_pileSize]
abbrev pH : List Nat := [r_pile, r_mAt, r_mLen]
set_option maxRecDepth 100000 in
theorem w_addMember {σ : mjS} {ws : List (List Int32)} {P Q : List KR} {y : KR} {l : List Int32} (h : Wd σ ws (P ++ y :: Q) l) (ty : mjTY σ) {z : ER} (hz : z ∈ y.2.2.2.2.2.2) {xe : Int32} (ee : xe = nI z.1) {ms : List (List Int32)} (hp : PIL σ ms) (hN : ms.length < 10000) (hsz : sl ms + z.2.1.length ≤ 200000) : mjY mjPP (mjQQ Y) (d + 1) 128 0 (mjL0 4 [.ref 0, .int xe]) [] σ (fun q u => q = none ∧ Fr pF pH σ u ∧ PIL u (amE z.2.1 ms)) := by
  obtain ⟨p1, p2, p3⟩ := hp
  refine mjZ_y rfl rfl 3 _ _ _ _ ty ?_
  refine (And.intro rfl (And.intro (Nat.le_of_ble_eq_true rfl) ?_))
  refine c_am_loop _ hz xe ee ms hN (by omega) (σ.2.2.1 r_mAt) (σ.2.2.1 r_mLen) ms.reverse [] σ _ (by rw [List.reverse_reverse, List.append_nil]) (by rw [List.length_reverse]; exact p1) ty h p3 (fun j => by rw [if_neg (by rw [List.length_reverse]; omega)]) (fun j => by rw [if_neg (by rw [List.length_reverse]; omega)]) (fun u1 x2 F1 F2 ty1 f1 g1 g2 g3 g4 g5 => ?_)
  have h1 := h.fr f1 (by decide) (by decide)
  obtain ⟨hs, hh, ho⟩ := h1.eid hz
  have zid := ho.1
  have ve : vp_in xe 10000 := by rw [ee]; exact vp_in_nI zid (by decide)
  have ce : xe.toNatClampNeg = z.1 := by rw [ee]; exact nI_clamp (by omega)
  have lF : F1.length + F2.length = ms.length := by rw [g1, List.length_append]
  have v2 : vp_in x2 10000 := by rw [g3]; exact vp_in_nI (by omega) (by decide)
  have c2 : x2.toNatClampNeg = F1.length := by rw [g3]; exact nI_clamp (by omega)
  obtain ⟨b, eb, el, hb, ew⟩ := ho.2.1.cmp hh
  refine mjZ_y rfl rfl 16 _ _ _ _ ty1 ?_
  refine (And.intro rfl (And.intro rfl (And.intro rfl (And.intro v2 (fun ty1' => (And.intro rfl (And.intro rfl (And.intro rfl (And.intro ve (And.intro rfl (And.intro v2 (fun ty1'' => (And.intro (Nat.le_of_ble_eq_true rfl) ?_)))))))))))))
  have go : ∀ u2 : mjS, mjTY u2 → u2 = (u1.1, u1.2.1, mjIu (mjIu u1.2.2.1 r_mAt F1.length (nI (sl ms))) r_mLen F1.length (nI z.2.1.length), u1.2.2.2) → mjY mjPP (mjQQ Y) (d + 1) 128 69 [some (.ref 0), some (.int xe), some (.int x2), some (.int 0)] [] u2 (fun q u => q = none ∧ Fr pF pH σ u ∧ PIL u (amE z.2.1 ms)) := by
    intro u2 ty2 eu2
    have f2 : Fr [] pH u1 u2 := by rw [eu2]; exact (Fr.a (h := r_mAt) (by decide)).tr (Fr.a (h := r_mLen) (by decide))
    have r2 : ∀ g, g ≠ r_mAt → g ≠ r_mLen → u2.2.2.1 g = u1.2.2.1 g := fun g a1 a2 => by rw [eu2]; show mjIu (mjIu u1.2.2.1 r_mAt F1.length (nI (sl ms))) r_mLen F1.length (nI z.2.1.length) g = _; rw [mjIu_ne a2, mjIu_ne a1]
    have rA : ∀ j, u2.2.2.1 r_mAt j = if j = F1.length then nI (sl ms) else u1.2.2.1 r_mAt j := fun j => by rw [eu2]; show mjIu (mjIu u1.2.2.1 r_mAt F1.length (nI (sl ms))) r_mLen F1.length (nI z.2.1.length) r_mAt j = _; rw [mjIu_ne (by decide), mjIu_s]
    have rL : ∀ j, u2.2.2.1 r_mLen j = if j = F1.length then nI z.2.1.length else u1.2.2.1 r_mLen j := fun j => by rw [eu2]; show mjIu (mjIu u1.2.2.1 r_mAt F1.length (nI (sl ms))) r_mLen F1.length (nI z.2.1.length) r_mLen j = _; rw [mjIu_s, mjIu_ne (by decide)]
    have z2 : u2.1 f_pileSize = nI (sl ms) := by rw [f2.1 _ (by decide), f1.1 _ (by decide)]; exact p2
    have m2 : u2.1 f_members = nI ms.length := by rw [f2.1 _ (by decide), f1.1 _ (by decide)]; exact p1
    refine c_am_cpy _ xe x2 z.1 ee zid b z.2.1.length (sl ms) hb hsz (u2.2.2.1 r_heap) (u2.2.2.1 r_pile) z.2.1.length 0 u2 _ rfl (Nat.zero_add _) ty2 z2 (by rw [r2 _ (by decide) (by decide)]; exact el) (by rw [r2 _ (by decide) (by decide)]; exact eb) rfl (by rw [cpy_0]) (fun u3 x3 ty3 f3 e3 => ?_)
    have z3 : u3.1 f_pileSize = nI (sl ms) := by rw [f3.1 _ (by decide)]; exact z2
    have m3 : u3.1 f_members = nI ms.length := by rw [f3.1 _ (by decide)]; exact m2
    have l3 : u3.2.2.1 (mjHn 27) xe.toNatClampNeg = nI z.2.1.length := by rw [ce]; exact (congrFun (f3.2.2 r_eLen (by decide)).1 z.1).trans (by rw [r2 _ (by decide) (by decide)]; exact el)
    refine mjZ_y rfl rfl 16 _ _ _ _ ty3 ?_
    refine (And.intro rfl (And.intro rfl (And.intro rfl (And.intro ve (And.intro rfl (And.intro (Or.inl rfl) (fun ty3' => (And.intro rfl (And.intro rfl (And.intro (Or.inl rfl) (fun ty3'' => And.intro rfl (And.intro rfl ?_))))))))))))
    refine ⟨rfl, ?_, ?_⟩
    · exact ((f1.up (fun _ q => by cases q) (by decide)).tr (f2.up (fun _ q => by cases q) (fun _ q => q))).tr ((f3.up (fun _ q => by cases q) (by decide)).tr ((Fr.i (k := f_pileSize) (by decide)).tr (Fr.i (k := f_members) (by decide))))
    · have am := amE_m z.2.1 ms
      have ef : F1.length = ms.length - amR z.2.1 ms.reverse := by
        have g2 : F2.length = 0 + amR z.2.1 ms.reverse := g2
        omega
      have eE : amE z.2.1 ms = F1 ++ z.2.1 :: F2 := by
        unfold amE
        rw [← ef, g1, List.take_left, List.drop_left]
      refine ⟨?_, ?_, fun i m hi => ?_⟩
      · show u3.1 f_members + 1 = _
        rw [m3, am.1]; exact nI_1 _
      · show u3.1 f_pileSize + u3.2.2.1 (mjHn 27) xe.toNatClampNeg = _
        rw [z3, l3, am.2, nI_add]
      · show ∃ a, u3.2.2.1 r_mAt i = nI a ∧ u3.2.2.1 r_mLen i = nI m.length ∧ a + m.length ≤ sl (amE z.2.1 ms) ∧ wd (u3.2.2.1 r_pile) a m.length = m
        rw [(f3.2.2 r_mAt (by decide)).1, (f3.2.2 r_mLen (by decide)).1, rA, rL, e3, am.2]
        rw [eE] at hi
        by_cases c : i = F1.length
        · rw [if_pos c, if_pos c]
          rw [c, List.getElem?_append_right (Nat.le_refl _), Nat.sub_self] at hi
          have hi : z.2.1 = m := Option.some.inj hi
          rw [← hi]
          refine ⟨sl ms, rfl, rfl, Nat.le_refl _, ?_⟩
          rw [cpy_wd, r2 _ (by decide) (by decide)]; exact ew
        · rw [if_neg c, if_neg c, g4, g5]
          have old : ∀ k, ms[k]? = some m → ∃ a, σ.2.2.1 r_mAt k = nI a ∧ σ.2.2.1 r_mLen k = nI m.length ∧ a + m.length ≤ sl ms + z.2.1.length ∧ wd (va_cpy (u2.2.2.1 r_heap) (u2.2.2.1 r_pile) b (sl ms) z.2.1.length) a m.length = m := by
            intro k hk
            obtain ⟨a, a1, a2, a3, a4⟩ := p3 k m hk
            refine ⟨a, a1, a2, by omega, ?_⟩
            refine Eq.trans (wd_congr fun t ht => ?_) a4
            rw [cpy_lo (by omega), r2 _ (by decide) (by decide), (f1.2.2 r_pile (by decide)).1]
          by_cases c3 : i < F1.length
          · rw [if_neg (by omega), if_neg (by omega)]
            rw [List.getElem?_append_left c3] at hi
            exact old i (by rw [g1, List.getElem?_append_left c3]; exact hi)
          · have hil := (List.getElem?_eq_some_iff.mp hi).1
            rw [List.length_append, List.length_cons] at hil
            rw [if_pos (by omega), if_pos (by omega)]
            rw [List.getElem?_append_right (by omega), show i - F1.length = (i - 1 - F1.length) + 1 by omega] at hi
            refine old (i - 1) ?_
            rw [g1, List.getElem?_append_right (by omega)]
            exact hi
  refine go _ ty1'' ?_
  show (u1.1, u1.2.1, mjIu (mjIu u1.2.2.1 r_mAt x2.toNatClampNeg (u1.1 f_pileSize)) r_mLen x2.toNatClampNeg (u1.2.2.1 r_eLen xe.toNatClampNeg), u1.2.2.2) = _
  rw [c2, ce, el, f1.1 f_pileSize (by decide), p2]
end PILE
