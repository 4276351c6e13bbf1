/-! What a rewrite tells is steps of the class's log. -/
section KDUMP2
theorem clA_ap2 (a b : List AK) : clA (a ++ b) = clA a + clA b := by unfold clA; rw [List.map_append, List.sum_append]
theorem LJ_half {P : List AK} {a : AK} {Q : List AK} {N : Nat} (h : LJ (P ++ a :: Q) N) {b : AK} (hb : AOK b) (h1 : b.1 = a.1) (hs : b.2.1 = a.2.1) (h2 : b.2.2.2.2.1.length ≤ a.2.2.2.2.1.length) (h3 : b.2.2.2.2.2.length ≤ a.2.2.2.2.2.length) (h4 : eT b.2.2.2.2.2 ≤ eT a.2.2.2.2.2) (h5 : b.2.2.1 = 0 ∨ b.2.2.1 = a.2.2.1) : LJ (P ++ [b]) N := by
  obtain ⟨l1, l2, l3, l4, l5, l6⟩ := h
  have hI := LI_half l1 hb h1 hs h2 h3 h4
  have x1 := txB_mid P Q a
  have x2 := txB_mid P [] b
  have y1 := oS_mid P Q a
  have y2 := oS_mid P [] b
  have t1 := tS_mid P Q a
  have t2 := tS_mid P [] b
  have u1 := uS_mid P Q a
  have u2 := uS_mid P [] b
  have v1 := vS_mid P Q a
  have v2 := vS_mid P [] b
  have z1 : txB ([] : List AK) = 0 := rfl
  have z2 : oS ([] : List AK) = 0 := rfl
  have z3 : tS ([] : List AK) = 0 := rfl
  have z4 : uS ([] : List AK) = 0 := rfl
  have z5 : vS ([] : List AK) = 0 := rfl
  have q1 : txQ b ≤ txQ a := by unfold txQ; rw [hs]; split <;> omega
  have q2 : oK b ≤ oK a := by unfold oK; rw [hs]; split <;> omega
  have q3 : tK b ≤ tK a ∧ uK b ≤ uK a := by
    unfold tK uK
    rw [h1]
    rcases h5 with z | z
    · rw [if_pos z, if_pos z]; exact ⟨Nat.zero_le _, Nat.zero_le _⟩
    · rw [z]; exact ⟨Nat.le_refl _, Nat.le_refl _⟩
  have q4 : vK b ≤ vK a := by unfold vK; rw [hs, h1]; split <;> omega
  have e5 : memB (P ++ a :: Q) = memB P + (64 + a.1.length + a.2.2.2.2.1.length + memW a.2.1 * a.2.2.2.2.2.length + eT a.2.2.2.2.2 + memB Q) := by rw [memB_app]; rfl
  have e6 : memB (P ++ [b]) = memB P + (64 + b.1.length + b.2.2.2.2.1.length + memW b.2.1 * b.2.2.2.2.2.length + eT b.2.2.2.2.2 + 0) := by rw [memB_app]; rfl
  have m : memW b.2.1 * b.2.2.2.2.2.length ≤ memW a.2.1 * a.2.2.2.2.2.length := by rw [hs]; exact Nat.mul_le_mul_left _ h3
  have hl : b.1.length = a.1.length := by rw [h1]
  have l3 : oS (P ++ a :: Q) ≤ 2300 := l3
  exact ⟨hI, by omega, (by show oS (P ++ [b]) ≤ 2300; omega), by omega, by omega, by omega⟩
theorem LJ_init {P Q : List AK} {N : Nat} (h : LJ (P ++ Q) N) : LJ P N := by
  obtain ⟨l1, l2, l3, l4, l5, l6⟩ := h
  have l3 : oS (P ++ Q) ≤ 2300 := l3
  rw [txB_app] at l2
  rw [oS_app] at l3
  rw [tS_app, uS_app] at l4 l5
  rw [memB_app] at l5
  rw [vS_app] at l6
  exact ⟨LI_init l1, by omega, (by show oS P ≤ 2300; omega), by omega, by omega, by omega⟩
theorem LJ_fl {P : List AK} {a : AK} {Q : List AK} {N : Nat} (h : LJ (P ++ a :: Q) N) (hs : ¬ a.2.1 = 0) {es c : List AE} (he : a.2.2.2.2.2 = es ++ c) : LJ (flA P a.1 a.2.1 es) N := by
  by_cases z : es = []
  · have e : flA P a.1 a.2.1 es = P := if_pos z
    rw [e]; exact LJ_init h
  · have ha : AOK a := h.1.1.2 a (List.mem_append_right _ List.mem_cons_self)
    have e2 : flA P a.1 a.2.1 es = P ++ [pk a es] := by
      rw [fl_ne z]; show P ++ [(a.1, a.2.1, 0, 0, [], es)] = P ++ [(a.1, a.2.1, 0, 0, a.2.2.2.2.1, es)]; rw [(ha.2.2.2.1 hs).2]
    rw [e2]
    refine LJ_half h (AOK_half ha he (fun _ => z)) rfl rfl (Nat.le_refl _) ?_ ?_ (Or.inl rfl)
    · rw [he]; show es.length ≤ (es ++ c).length; rw [List.length_append]; omega
    · rw [he]; show eT es ≤ eT (es ++ c); rw [eT_app]; omega
theorem clA_fl (P : List AK) (n : List Int32) (s : Int32) (es : List AE) : clA (flA P n s es) = clA P + ptI s * es.length := by
  by_cases z : es = []
  · have e : flA P n s es = P := if_pos z
    rw [e, z]; show _ = _ + _ * 0; omega
  · rw [fl_ne z, clA_ap2]
    show _ + (ptI s * es.length + 0) = _; omega
theorem id_lg {s : Int32} (hs : s = 1 ∨ s = 2 ∨ s = 3 ∨ s = 4) : idS s ∈ lgL ∧ (¬ idS s = 19) ∧ ((¬ s = 4) → ¬ (idS s = 78 ∨ idS s = 9 ∨ idS s = 10 ∨ (74 ≤ idS s ∧ idS s ≤ 76))) ∧ (s = 4 → idS s = 78) := by
  rcases hs with rfl | rfl | rfl | rfl
  · exact ⟨by decide, by decide, fun _ => by decide, fun z => absurd z (by decide)⟩
  · exact ⟨by decide, by decide, fun _ => by decide, fun z => absurd z (by decide)⟩
  · exact ⟨by decide, by decide, fun _ => by decide, fun z => absurd z (by decide)⟩
  · exact ⟨by decide, by decide, fun z => absurd rfl z, fun _ => by decide⟩
/-- steps, none with more of times than so much -/
def KCm (P M : Nat) : List AK → List Req → List AK → Prop
  | A, [], A' => A' = A
  | A, q :: ns, A' => ∃ C, KSt A q C ∧ LJ C P ∧ tmK C ≤ M ∧ KCm P M C ns A'
theorem KCm_app {P M : Nat} : ∀ {ns ms : List Req} {A C E : List AK}, KCm P M A ns C → KCm P M C ms E → KCm P M A (ns ++ ms) E
  | [], _, A, C, E, h, g => by have h : C = A := h; rw [← h]; exact g
  | _ :: _, _, _, _, _, h, g => by
    obtain ⟨D, h1, h2, h3, h4⟩ := h
    exact ⟨D, h1, h2, h3, KCm_app h4 g⟩
theorem tmK_app (a b : List AK) : tmK (a ++ b) = tmK a + tmK b := by unfold tmK; rw [tS_app, uS_app]; omega
theorem tm_half {P : List AK} {a : AK} {Q : List AK} {b : AK} (h1 : b.1 = a.1) (h5 : b.2.2.1 = 0 ∨ b.2.2.1 = a.2.2.1) : tmK (P ++ [b]) ≤ tmK (P ++ a :: Q) := by
  have q3 : tK b ≤ tK a ∧ uK b ≤ uK a := by
    unfold tK uK
    rw [h1]
    rcases h5 with z | z
    · rw [if_pos z, if_pos z]; exact ⟨Nat.zero_le _, Nat.zero_le _⟩
    · rw [z]; exact ⟨Nat.le_refl _, Nat.le_refl _⟩
  rw [tmK_app, tmK_app]
  show tmK P + (19 * (tK b + 0) + 2 * (uK b + 0)) ≤ tmK P + (19 * (tK a + tS Q) + 2 * (uK a + uS Q))
  omega
theorem tm_fl {P : List AK} {a : AK} {Q : List AK} {es : List AE} : tmK (flA P a.1 a.2.1 es) ≤ tmK (P ++ a :: Q) := by
  by_cases z : es = []
  · have e : flA P a.1 a.2.1 es = P := if_pos z
    rw [e, tmK_app]; omega
  · rw [fl_ne z]; exact tm_half rfl (Or.inl rfl)
theorem KC_chunks {P : List AK} {a : AK} {Q : List AK} {N : Nat} (h : LJ (P ++ a :: Q) N) (hB : BYA a) (hs : a.2.1 = 1 ∨ a.2.1 = 2 ∨ a.2.1 = 3 ∨ a.2.1 = 4) : ∀ (f : Nat) (r es : List AE), a.2.2.2.2.2 = es ++ r → r.length ≤ f → KCm N (tmK (P ++ a :: Q)) (flA P a.1 a.2.1 es) ((ckF (ptS a.2.1) f r).map (rqE a.2.1 a.1)) (flA P a.1 a.2.1 (es ++ r)) := by
  have hm : 1 ≤ ptS a.2.1 := by rcases hs with z | z | z | z <;> rw [z] <;> decide
  have hs0 : ¬ a.2.1 = 0 := by rcases hs with z | z | z | z <;> rw [z] <;> decide
  obtain ⟨g1, g2, g3, g4⟩ := id_lg hs
  intro f
  induction f with
  | zero =>
    intro r es he hr
    have e0 : r = [] := List.length_eq_zero_iff.mp (Nat.le_zero.mp hr)
    subst e0
    rw [List.append_nil]; rfl
  | succ f ih =>
    intro r es he hr
    by_cases c : r = []
    · subst c; rw [List.append_nil]
      show KCm N (tmK (P ++ a :: Q)) _ ((if ([] : List AE) = [] then [] else _).map _) _
      rw [if_pos rfl]; rfl
    · have e1 : ckF (ptS a.2.1) (f + 1) r = r.take (ptS a.2.1) :: ckF (ptS a.2.1) f (r.drop (ptS a.2.1)) := if_neg c
      rw [e1]
      have r1 : 1 ≤ r.length := Nat.pos_of_ne_zero (fun z => c (List.length_eq_zero_iff.mp z))
      have he2 : a.2.2.2.2.2 = es ++ r.take (ptS a.2.1) ++ r.drop (ptS a.2.1) := by rw [List.append_assoc, List.take_append_drop]; exact he
      have nt : r.take (ptS a.2.1) ≠ [] := fun z => by
        have := congrArg List.length z
        rw [List.length_take] at this
        have : min (ptS a.2.1) r.length = 0 := this
        omega
      obtain ⟨s1, s2⟩ := LSt_chunk h.1 hB hs he2 nt (by rw [List.length_take]; omega)
      have i := ih (r.drop (ptS a.2.1)) (es ++ r.take (ptS a.2.1)) he2 (by rw [List.length_drop]; omega)
      rw [List.append_assoc, List.take_append_drop] at i
      have j1 := LJ_fl h hs0 he
      have j2 := LJ_fl h hs0 he2
      refine ⟨_, LSt_K s1 g1 j1.1.1 j1.num ?_ (fun z => absurd z g2), j2, tm_fl, i⟩
      by_cases s4 : a.2.1 = 4
      · have n2 := j2.num.2.2.1
        have c1 := clA_fl P a.1 a.2.1 es
        have c2 := clA_fl P a.1 a.2.1 (es ++ r.take (ptS a.2.1))
        have p4 : ptI a.2.1 = 4 := by rw [s4]; decide
        rw [p4, List.length_append] at c2
        rw [p4] at c1
        have ll : (rqE a.2.1 a.1 (r.take (ptS a.2.1))).length = 2 + eaS a.2.1 * (r.take (ptS a.2.1)).length := by
          show ((r.take (ptS a.2.1)).flatMap (tlE a.2.1)).length + 1 + 1 = _; rw [tl_len hs]; omega
        have e2 : eaS a.2.1 = 2 := by rw [s4]; decide
        rw [e2] at ll
        have ll : (nm (idS a.2.1) :: a.1 :: (r.take (ptS a.2.1)).flatMap (tlE a.2.1)).length = 2 + 2 * (r.take (ptS a.2.1)).length := ll
        refine ⟨fun _ => ?_, fun z => ?_, fun z => ?_⟩
        · rw [ll]; omega
        · rw [g4 s4] at z; rcases z with z | z <;> exact absurd z (by decide)
        · rw [g4 s4] at z; exact absurd z (by decide)
      · exact PQ_light (g3 s4)
theorem KC_key {P : List AK} {a : AK} {Q : List AK} {N : Nat} (h : LJ (P ++ a :: Q) N) (hB : BYA a) : KCm N (tmK (P ++ a :: Q)) P (dkR a) (P ++ [a]) := by
  have ha : AOK a := h.1.1.2 a (List.mem_append_right _ List.mem_cons_self)
  have hb := h.1.bhd
  have hP := LJ_init h
  obtain ⟨a1, a2, a3, a4, a5, a6⟩ := ha
  have hw := a1.1
  have first : KCm N (tmK (P ++ a :: Q)) P (if a.2.1 = 0 then [[nm 2, a.1, a.2.2.2.2.1]] else (ckF (ptS a.2.1) a.2.2.2.2.2.length a.2.2.2.2.2).map (rqE a.2.1 a.1)) (P ++ [pk a a.2.2.2.2.2]) ∧ LJ (P ++ [pk a a.2.2.2.2.2]) N := by
    by_cases c : a.2.1 = 0
    · have e0 : a.2.2.2.2.2 = [] := a3.2.1 c
      have hL : LJ (P ++ [pk a a.2.2.2.2.2]) N := LJ_half h (AOK_half ⟨a1, a2, a3, a4, a5, a6⟩ (c := []) (List.append_nil _).symm (fun z => absurd c z)) rfl rfl (Nat.le_refl _) (Nat.le_refl _) (Nat.le_refl _) (Or.inl rfl)
      refine ⟨?_, hL⟩
      rw [if_pos c]
      refine ⟨_, ?_, hL, tm_half rfl (Or.inl rfl), rfl⟩
      have e1 : P ++ [pk a a.2.2.2.2.2] = stA P a.1 a.2.2.2.2.1 0 0 0 := by
        rw [st_new hb]; show P ++ [(a.1, a.2.1, 0, 0, a.2.2.2.2.1, a.2.2.2.2.2)] = _; rw [c, e0]
      have g0 := h.1
      obtain ⟨l1, l2, l3, l4, l5, l6⟩ := g0
      have g1 : eN (P ++ a :: Q) = eN P + (a.2.2.2.2.2.length + eN Q) := by rw [eN_app]; rfl
      have g3 : tT (P ++ a :: Q) = tT P + (a.1.length + a.2.2.2.2.1.length + eT a.2.2.2.2.2 + tT Q) := by rw [tT_app]; rfl
      have k1 : (P ++ a :: Q).length = P.length + (Q.length + 1) := by rw [List.length_append]; rfl
      rw [e1]
      refine LSt_K (i := 2) (as := [a.1, a.2.2.2.2.1]) ?_ (by decide) hP.1.1 hP.num (PQ_light (by decide)) (fun z => absurd z (by decide))
      refine LSt_mk (as := [a.1, a.2.2.2.2.1]) (by decide) (by decide) rfl (show afX 2 2 = true by decide) (show 2 ≤ 1023 by decide) (fun w hw => ?_) (fun now => re_set (Or.inl rfl) (Or.inl rfl) (nm 2) now) ?_ (by show _ + 2 < _; omega) (by show _ + 2 < _; omega) ?_ (fun z => absurd z (by decide))
      · rcases List.mem_cons.mp hw with rfl | hw
        · exact a1
        · rw [List.mem_singleton.mp hw]; exact ⟨a2, hB.1⟩
      · show tT P + (a.1.length + (a.2.2.2.2.1.length + 0)) + a.1.length ≤ _ ∧ a.1.length + (a.2.2.2.2.1.length + 0) ≤ _; omega
      · rw [sz_cons, sz_cons]; show 800 + (a.1.length + 26 + (a.2.2.2.2.1.length + 26 + 0)) ≤ _; omega
    · rw [if_neg c]
      have hs : a.2.1 = 1 ∨ a.2.1 = 2 ∨ a.2.1 = 3 ∨ a.2.1 = 4 := a6.resolve_left c
      obtain ⟨ne, ht⟩ := a4 c
      have l := KC_chunks h hB hs a.2.2.2.2.2.length a.2.2.2.2.2 [] rfl (Nat.le_refl _)
      rw [List.nil_append] at l
      have e1 : flA P a.1 a.2.1 [] = P := if_pos rfl
      have e2 : flA P a.1 a.2.1 a.2.2.2.2.2 = P ++ [pk a a.2.2.2.2.2] := by
        rw [fl_ne ne]; show P ++ [(a.1, a.2.1, 0, 0, [], a.2.2.2.2.2)] = P ++ [(a.1, a.2.1, 0, 0, a.2.2.2.2.1, a.2.2.2.2.2)]; rw [ht]
      rw [e1, e2] at l
      refine ⟨l, LJ_half h (AOK_half ⟨a1, a2, a3, a4, a5, a6⟩ (c := []) (List.append_nil _).symm (fun _ => ne)) rfl rfl (Nat.le_refl _) (Nat.le_refl _) (Nat.le_refl _) (Or.inl rfl)⟩
  obtain ⟨f1, f2⟩ := first
  refine KCm_app f1 ?_
  by_cases t : a.2.2.1 = 0
  · rw [if_pos t]
    have t2 : a.2.2.2.1 = 0 := by
      rcases a5 with ⟨-, z⟩ | ⟨z, -⟩
      · exact z
      · rw [t] at z; exact absurd z (by decide)
    show P ++ [a] = P ++ [(a.1, a.2.1, 0, 0, a.2.2.2.2.1, a.2.2.2.2.2)]
    rw [← t, ← t2]
  · rw [if_neg t]
    obtain ⟨t1, t2, t3⟩ : a.2.2.1 = 1 ∧ 1 ≤ a.2.2.2.1 ∧ a.2.2.2.1 ≤ LAT := by
      rcases a5 with ⟨z, -⟩ | z
      · exact absurd z t
      · exact z
    have hL : LJ (P ++ [a]) N := LJ_half h ⟨a1, a2, a3, a4, a5, a6⟩ rfl rfl (Nat.le_refl _) (Nat.le_refl _) (Nat.le_refl _) (Or.inr rfl)
    refine ⟨P ++ [a], ?_, hL, tm_half rfl (Or.inr rfl), rfl⟩
    have hk : kyI (P ++ [pk a a.2.2.2.2.2]) a.1 = some P.length := ky_old (x := pk a a.2.2.2.2.2) hb
    have eu : upA (P ++ [pk a a.2.2.2.2.2]) P.length (exF a.2.2.2.1) = P ++ [a] := by
      rw [upA_at P _ []]
      show P ++ [(a.1, a.2.1, 1, a.2.2.2.1, a.2.2.2.2.1, a.2.2.2.2.2)] = P ++ [a]
      rw [← t1]
    have dl := dec_20 a.2.2.2.1
    have f3 := f2.1
    refine LSt_K (i := 33) (as := [a.1, dec a.2.2.2.1]) ?_ (by decide) f2.1.1 f2.num (PQ_light (by decide)) (fun z => absurd z (by decide))
    obtain ⟨l1, l2, l3, l4, l5, l6⟩ := f3
    refine LSt_mk (as := [a.1, dec a.2.2.2.1]) (by decide) (by decide) rfl (show afX 33 2 = true by decide) (show 2 ≤ 1023 by decide) (fun w hw => ?_) (fun now => ?_) ?_ (by show _ + 2 < _; omega) (by show _ + 2 < _; omega) ?_ (fun z => absurd z (by decide))
    · rcases List.mem_cons.mp hw with rfl | hw
      · exact a1
      · rw [List.mem_singleton.mp hw]; exact dec_wk _
    · have := re_exp hk t2 t3 (nm 33) now
      rw [eu] at this; exact this
    · show _ + (a.1.length + ((dec a.2.2.2.1).length + 0)) + a.1.length ≤ _ ∧ a.1.length + ((dec a.2.2.2.1).length + 0) ≤ _; omega
    · rw [sz_cons, sz_cons]; show 800 + (a.1.length + 26 + ((dec a.2.2.2.1).length + 26 + 0)) ≤ _; omega
/-- what is told leads to the list -/
theorem KC_all {N : Nat} : ∀ (Q P : List AK), LJ (P ++ Q) N → (∀ a ∈ Q, BYA a) → KCm N (tmK (P ++ Q)) P (dmR Q) (P ++ Q) := by
  intro Q
  induction Q with
  | nil => intro P _ _; rw [List.append_nil]; rfl
  | cons a Q ih =>
    intro P h hB
    have i := ih (P ++ [a]) (by rw [List.append_assoc]; exact h) (fun b hb => hB b (List.mem_cons_of_mem _ hb))
    rw [List.append_assoc] at i
    exact KCm_app (KC_key h (hB a List.mem_cons_self)) i
theorem KCm_LG {P M : Nat} : ∀ {qs : List Req} {A C : List AK} {n : Nat}, KCm P M A qs C → n + (encs qs).length + (M + 8 * P) ≤ 207584 → KLg P n A (sgX qs) C
  | [], _, _, _, h, _ => h
  | q :: r, A, C, n, h, hn => by
    obtain ⟨D, h1, h2, h3, h4⟩ := h
    have e : (encs (q :: r)).length = (encR q).length + (encs r).length := by
      show (List.flatMap encR (q :: r)).length = _
      rw [List.flatMap_cons, List.length_append]; rfl
    have eb : blkB false [q] = encR q := by
      rw [bqs_b (by simp)]
      show List.flatMap encR [_] = _
      rw [List.flatMap_cons, List.flatMap_nil, List.append_nil]
    refine ⟨by simp, fun _ => by simp, D, ⟨D, h1, h2, rfl⟩, ?_, ?_⟩
    · show n + (blkB false [q]).length + (19 * tS D + 2 * uS D + 8 * P) ≤ 207584
      rw [eb]
      unfold tmK at h3
      omega
    · show KLg P (n + (blkB false [q]).length) D (sgX r) C
      rw [eb]; exact KCm_LG h4 (by omega)
/-- the log behind a rewrite -/
theorem KLg_dump {N : Nat} {A : List AK} (h : LJ A N) (hB : ∀ a ∈ A, BYA a) : KLg N 0 [] (sgX (dmR A)) A ∧ (enE (sgX (dmR A))).length + (tmK A + 8 * N) ≤ 207584 := by
  have d := h.dm
  have k := KC_all (N := N) A [] h hB
  refine ⟨KCm_LG k (by rw [List.nil_append]; omega), ?_⟩
  rw [sgX_e]; exact d
end KDUMP2
