/-! ZRANGEBYSCORE; what is told of hashes. -/
section READS2
variable {Y : Nat → MethodName × ByteArray} {d : Nat}
set_option maxRecDepth 100000 in
theorem c_bs_loop (K : mjK) {ws : List (List Int32)} {l : List Int32} {P Q : List KR} {y : KR} (x1 x2 x3 x4 x5 : Int32) : ∀ (R : List ER) (σ : mjS) (x6 : Int32) (seen : Int64) (x9 : Int32) (l10 : Option Value), CUR y (¬ x3 = 0) R x6 → mjTY σ → Wd σ ws (P ++ y :: Q) l → (∀ u x6 seen x9 l10, mjTY u → Fr cF cH σ u → Wd u ws (P ++ y :: Q) l → mjY mjPP (mjQQ Y) (d + 4) 139 115 [some (.ref 0), some (.int x1), some (.int x2), some (.int x3), some (.int x4), some (.int x5), some (.int x6), some (.long seen), none, some (.int x9), l10] [] u K) →
    mjY mjPP (mjQQ Y) (d + 4) 139 51 [some (.ref 0), some (.int x1), some (.int x2), some (.int x3), some (.int x4), some (.int x5), some (.int x6), some (.long seen), none, some (.int x9), l10] [] σ K := by
  intro R
  induction R with
  | nil =>
    intro σ x6 seen x9 l10 hc ty h hK
    refine mjZ_y rfl rfl 2 _ _ _ _ ty ?_
    refine And.intro (fun q => ?_) (fun q => ?_)
    · exact hK σ _ _ _ _ ty Fr.rf h
    · exact absurd (lt_m1 hc.nil) q
  | cons z R ih =>
    intro σ x6 seen x9 l10 hc ty h hK
    obtain ⟨e6, hm, hid, v6, -, -⟩ := hc.cons h
    have s102 : ∀ (u : mjS) (seen : Int64) (x9 : Int32) (l10 : Option Value), mjTY u → Wd u ws (P ++ y :: Q) l → oO σ u → mjY mjPP (mjQQ Y) (d + 4) 139 102 [some (.ref 0), some (.int x1), some (.int x2), some (.int x3), some (.int x4), some (.int x5), some (.int x6), some (.long seen), none, some (.int x9), l10] [] u K := by
      intro u seen x9 l10 tu hu ou
      obtain ⟨-, -, -, -, hN, hP⟩ := hc.cons hu
      refine mjZ_y rfl rfl 2 _ _ _ _ tu ?_
      refine And.intro (fun b => ?_) (fun b => ?_)
      · refine mjZ_y rfl rfl 6 _ _ _ _ tu ?_
        refine (And.intro rfl (And.intro rfl (And.intro v6 (And.intro (Nat.le_of_ble_eq_true rfl) ?_))))
        exact ih u _ _ _ _ (hN (fun z => z b)) tu hu (fun v x6 seen x9 l10 tv fv hv => hK v x6 seen x9 l10 tv (ou.c.tr fv) hv)
      · refine mjZ_y rfl rfl 7 _ _ _ _ tu ?_
        refine (And.intro rfl (And.intro rfl (And.intro v6 (And.intro (Nat.le_of_ble_eq_true rfl) ?_))))
        exact ih u _ _ _ _ (hP b) tu hu (fun v x6 seen x9 l10 tv fv hv => hK v x6 seen x9 l10 tv (ou.c.tr fv) hv)
    have s86 : ∀ (z : Int32), mjY mjPP (mjQQ Y) (d + 4) 139 86 [some (.ref 0), some (.int x1), some (.int x2), some (.int x3), some (.int x4), some (.int x5), some (.int x6), some (.long seen), none, some (.int x9), l10] [.int z] σ K := by
      intro z
      refine mjZ_y rfl rfl 7 _ _ _ _ ty ?_
      refine (And.intro (Nat.le_of_ble_eq_true rfl) (And.intro (Nat.le_of_ble_eq_true rfl) (And.intro (fun b => ?_) (fun b => ?_))))
      · exact s102 σ _ _ _ ty h (oO.rf h.2.2.2.1)
      · refine mjZ_y rfl rfl 4 _ _ _ _ ty ?_
        refine And.intro (fun c => ?_) (fun c => ?_)
        · exact s102 σ _ _ _ ty h (oO.rf h.2.2.2.1)
        · refine mjZ_y rfl rfl 5 _ _ _ _ ty ?_
          refine (And.intro rfl (And.intro (Nat.le_of_ble_eq_true rfl) (And.intro rfl (And.intro (Nat.le_of_ble_eq_true rfl) (And.intro (Nat.le_of_ble_eq_true rfl) (mjY_mono ty (fun q_ u1 ty1 h_ => ?_) (w_tellRanked h ty hm e6)))))))
          obtain ⟨rfl, h1, f1⟩ := h_
          intro _
          exact s102 u1 _ _ _ ty1 h1 f1
    have no : mjY mjPP (mjQQ Y) (d + 4) 139 85 [some (.ref 0), some (.int x1), some (.int x2), some (.int x3), some (.int x4), some (.int x5), some (.int x6), some (.long seen), none, some (.int x9), l10] [] σ K := by
      refine mjZ_y rfl rfl 1 _ _ _ _ ty ?_
      exact s86 _
    have yes : mjY mjPP (mjQQ Y) (d + 4) 139 83 [some (.ref 0), some (.int x1), some (.int x2), some (.int x3), some (.int x4), some (.int x5), some (.int x6), some (.long seen), none, some (.int x9), l10] [] σ K := by
      refine mjZ_y rfl rfl 2 _ _ _ _ ty ?_
      exact s86 _
    refine mjZ_y rfl rfl 2 _ _ _ _ ty ?_
    refine And.intro (fun q => ?_) (fun q => ?_)
    · exact absurd (show x6 < 0 from q) (lt_nI (by omega) e6)
    · refine mjZ_y rfl rfl 3 _ _ _ _ ty ?_
      refine (And.intro (Nat.le_of_ble_eq_true rfl) (And.intro rfl (And.intro (Nat.le_of_ble_eq_true rfl) (And.intro (Nat.le_of_ble_eq_true rfl) (mjY_mono ty (fun q_ u1 ty1 h_ => ?_) (w_inBounds h ty hm e6))))))
      obtain ⟨rfl, rfl⟩ := h_
      intro _
      refine mjZ_y rfl rfl 1 _ _ _ _ ty ?_
      refine And.intro (fun a => ?_) (fun a => ?_)
      · exact s102 u1 _ _ _ ty h (oO.rf h.2.2.2.1)
      · refine mjZ_y rfl rfl 3 _ _ _ _ ty ?_
        refine (And.intro rfl (And.intro (fun b => ?_) (fun b => ?_)))
        · exact yes
        · refine mjZ_y rfl rfl 5 _ _ _ _ ty ?_
          refine (And.intro rfl (And.intro (fun c => ?_) (fun c => ?_)))
          · exact no
          · refine mjZ_y rfl rfl 5 _ _ _ _ ty ?_
            refine (And.intro rfl (And.intro (fun e => ?_) (fun e => ?_)))
            · exact no
            · refine mjZ_y rfl rfl 5 _ _ _ _ ty ?_
              refine (And.intro rfl (And.intro (fun f => ?_) (fun f => ?_)))
              · exact yes
              · refine mjZ_y rfl rfl 8 _ _ _ _ ty ?_
                refine (And.intro rfl (And.intro rfl (And.intro (fun g => ?_) (fun g => ?_))))
                · exact no
                · exact yes
set_option maxRecDepth 100000 in
theorem r_byScore {σ : mjS} {ws : List (List Int32)} {ks : List KR} {l : List Int32} (h : Wd σ ws ks l) (ty : mjTY σ) (i1 : Nat) {x1 : Int32} {w : List Int32} (h1 : ws[1]? = some w) : mjY mjPP (mjQQ Y) (d + 6) 139 0 (mjL0 11 [.ref 0, .int x1]) [] σ (cmdK σ ws ks l i1 none) := by
  refine mjZ_y rfl rfl 3 _ _ _ _ ty ?_
  refine (And.intro (Nat.le_of_ble_eq_true rfl) (And.intro rfl (And.intro (Nat.le_of_ble_eq_true rfl) (And.intro (Nat.le_of_ble_eq_true rfl) (mjY_mono ty (fun q_ u1 ty1 h_ => ?_) (w_key h ty h1 (x := Int32.ofInt 1) rfl))))))
  obtain ⟨rfl, rfl⟩ := h_
  intro _
  -- one round, from the first element on
  have rnd : ∀ (K : mjK) (u : mjS) (x3 x4 x5 : Int32) (l6 l7 l8 l9 l10 : Option Value), mjTY u → Wd u ws ks l → (∀ v x6 seen x9 l10, mjTY v → Fr cF cH u v → Wd v ws ks l → mjY mjPP (mjQQ Y) (d + 6) 139 115 [some (.ref 0), some (.int x1), some (.int (kyS ks w)), some (.int x3), some (.int x4), some (.int x5), some (.int x6), some (.long seen), none, some (.int x9), l10] [] v K) → mjY mjPP (mjQQ Y) (d + 6) 139 31 [some (.ref 0), some (.int x1), some (.int (kyS ks w)), some (.int x3), some (.int x4), some (.int x5), l6, l7, l8, l9, l10] [] u K := by
    intro K u x3 x4 x5 l6 l7 l8 l9 l10 tu hu hK
    refine mjZ_y rfl rfl 4 _ _ _ _ tu ?_
    refine (And.intro (Nat.le_of_ble_eq_true rfl) (And.intro (fun a => ?_) (fun a => ?_)))
    · refine mjZ_y rfl rfl 6 _ _ _ _ tu ?_
      refine (And.intro (Nat.le_of_ble_eq_true rfl) (And.intro (Nat.le_of_ble_eq_true rfl) (And.intro (fun q => ?_) (fun q => ?_))))
      · exact hK u _ _ _ _ tu Fr.rf hu
      · exact absurd (lt_m1 rfl) q
    · have a : ¬ kyI (strip ks) w = none := fun z => a ((ky_ge hu w).2.mpr z)
      obtain ⟨P, y, Q, g0, g1, g2, -⟩ := ky_some a
      have ey : kyS ks w = nI y.1 := g2
      generalize kyS ks w = x2 at ey hK
      subst g0
      obtain ⟨-, -, -, vk⟩ := W_tail hu ey
      have hd := CUR.head hu ey (bk := ¬ x3 = 0)
      refine mjZ_y rfl rfl 2 _ _ _ _ tu ?_
      refine And.intro (fun b => ?_) (fun b => ?_)
      · refine mjZ_y rfl rfl 9 _ _ _ _ tu ?_
        refine (And.intro rfl (And.intro rfl (And.intro vk (And.intro (Nat.le_of_ble_eq_true rfl) (And.intro (Nat.le_of_ble_eq_true rfl) (And.intro (Nat.le_of_ble_eq_true rfl) ?_))))))
        exact c_bs_loop K x1 x2 x3 x4 x5 y.2.2.2.2.2.2 u _ _ _ _ (hd.1 (fun z => z b)) tu hu hK
      · refine mjZ_y rfl rfl 10 _ _ _ _ tu ?_
        refine (And.intro rfl (And.intro rfl (And.intro vk (And.intro (Nat.le_of_ble_eq_true rfl) (And.intro (Nat.le_of_ble_eq_true rfl) (And.intro (Nat.le_of_ble_eq_true rfl) ?_))))))
        exact c_bs_loop K x1 x2 x3 x4 x5 y.2.2.2.2.2.2.reverse u _ _ _ _ (hd.2 b) tu hu hK
  have fin : ∀ (u : mjS) (x3 x4 x5 x6 : Int32) (seen : Int64) (x9 : Int32) (l10 : Option Value), x5 = nI 2 → mjTY u → Fr cF cH u1 u → Wd u ws ks l → mjY mjPP (mjQQ Y) (d + 6) 139 15 [some (.ref 0), some (.int x1), some (.int (kyS ks w)), some (.int x3), some (.int x4), some (.int x5), some (.int x6), some (.long seen), none, some (.int x9), l10] [] u (cmdK u1 ws ks l i1 none) := by
    intro u x3 x4 x5 x6 seen x9 l10 e5 tu fu hu
    refine mjZ_y rfl rfl 3 _ _ _ _ tu ?_
    refine And.intro (fun q => ?_) (fun q => ?_)
    · refine mjZ_y rfl rfl 1 _ _ _ _ tu ?_
      refine And.intro rfl (And.intro rfl ?_)
      exact ⟨rfl, fu, ks, hu, rfl⟩
    · exact absurd (show nI 2 ≤ x5 by rw [e5]; exact nI_le (Nat.le_refl _) (by decide)) q
  have two : ∀ (u : mjS) (x3 x4 x5 x6 : Int32) (seen : Int64) (x9 : Int32) (l10 : Option Value), x5 = nI 1 → mjTY u → Fr cF cH u1 u → Wd u ws ks l → mjY mjPP (mjQQ Y) (d + 6) 139 15 [some (.ref 0), some (.int x1), some (.int (kyS ks w)), some (.int x3), some (.int x4), some (.int x5), some (.int x6), some (.long seen), none, some (.int x9), l10] [] u (cmdK u1 ws ks l i1 none) := by
    intro u x3 x4 x5 x6 seen x9 l10 e5 tu fu hu
    have s30 : ∀ z : Int32, mjY mjPP (mjQQ Y) (d + 6) 139 30 [some (.ref 0), some (.int x1), some (.int (kyS ks w)), some (.int x3), some (.int x4), some (.int x5), some (.int x6), some (.long seen), none, some (.int x9), l10] [.int z, .ref 0] u (cmdK u1 ws ks l i1 none) := by
      intro z
      refine mjZ_y rfl rfl 1 _ _ _ _ tu ?_
      refine (And.intro (Nat.le_of_ble_eq_true rfl) (And.intro rfl (And.intro (Nat.le_of_ble_eq_true rfl) (And.intro (Nat.le_of_ble_eq_true rfl) (mjY_mono tu (fun q_ u2 ty2 h_ => ?_) (w_row hu tu _))))))
      obtain ⟨rfl, h2, f2⟩ := h_
      intro _
      refine rnd _ u2 x3 x4 x5 _ _ _ _ _ ty2 h2 (fun v x6 seen x9 l10 tv fv hv => ?_)
      refine mjZ_y rfl rfl 4 _ _ _ _ tv ?_
      refine (And.intro (Nat.le_of_ble_eq_true rfl) ?_)
      exact fin v _ _ _ _ _ _ _ (by rw [e5]; exact nI_1 1) tv ((fu.tr f2.c).tr fv) hv
    refine mjZ_y rfl rfl 3 _ _ _ _ tu ?_
    refine And.intro (fun q => ?_) (fun q => ?_)
    · exact absurd (show nI 2 ≤ x5 from q) (by rw [e5]; exact nI_ge (by omega) (by omega))
    · refine mjZ_y rfl rfl 3 _ _ _ _ tu ?_
      refine And.intro (fun r => ?_) (fun r => ?_)
      · exact absurd (show x5 = nI 1 from e5) r
      · refine mjZ_y rfl rfl 4 _ _ _ _ tu ?_
        refine (And.intro rfl (And.intro (fun s => ?_) (fun s => ?_)))
        · refine mjZ_y rfl rfl 1 _ _ _ _ tu ?_
          exact s30 _
        · refine mjZ_y rfl rfl 4 _ _ _ _ tu ?_
          exact s30 _
  have one : ∀ x3 : Int32, mjY mjPP (mjQQ Y) (d + 6) 139 11 [some (.ref 0), some (.int x1), some (.int (kyS ks w)), some (.int x3), none, none, none, none, none, none, none] [] u1 (cmdK u1 ws ks l i1 none) := by
    intro x3
    refine mjZ_y rfl rfl 7 _ _ _ _ ty ?_
    refine (And.intro (Nat.le_of_ble_eq_true rfl) (And.intro (Nat.le_of_ble_eq_true rfl) (And.intro (fun q => ?_) (fun q => ?_))))
    · exact absurd (show nI 2 ≤ nI 0 from q) (nI_ge (by omega) (by omega))
    · refine mjZ_y rfl rfl 3 _ _ _ _ ty ?_
      refine And.intro (fun r => ?_) (fun r => ?_)
      · refine rnd _ u1 x3 _ _ _ _ _ _ _ ty h (fun v x6 seen x9 l10 tv fv hv => ?_)
        refine mjZ_y rfl rfl 4 _ _ _ _ tv ?_
        refine (And.intro (Nat.le_of_ble_eq_true rfl) ?_)
        exact two v _ _ _ _ _ _ _ rfl tv fv hv
      · exact absurd (show ¬ (0 : Int32) = 1 by decide) r
  refine mjZ_y rfl rfl 4 _ _ _ _ ty ?_
  refine (And.intro (Nat.le_of_ble_eq_true rfl) (And.intro (fun a => ?_) (fun a => ?_)))
  · refine mjZ_y rfl rfl 2 _ _ _ _ ty ?_
    refine (And.intro (Nat.le_of_ble_eq_true rfl) ?_)
    exact one _
  · refine mjZ_y rfl rfl 3 _ _ _ _ ty ?_
    refine (And.intro (Nat.le_of_ble_eq_true rfl) ?_)
    exact one _
-- hashes
set_option maxRecDepth 100000 in
theorem c_hm_loop (K : mjK) (x1 : Int32) {w : List Int32} {ws : List (List Int32)} {ks : List KR} {l : List Int32} (x2 : Int32) (e2 : x2 = kyS ks w) : ∀ (m a : Nat) (σ : mjS) (x3 : Int32), a + m = ws.length → x3 = nI a → mjTY σ → Wd σ ws ks l → (∀ u, Fr cF cH σ u → Wd u ws ks l → K none u) →
    mjY mjPP (mjQQ Y) (d + 4) 121 25 [some (.ref 0), some (.int x1), some (.int x2), some (.int x3), none] [] σ K := by
  intro m
  induction m with
  | zero =>
    intro a σ x3 ha e3 ty h hK
    have h1024 := h.2.1.2.1
    refine mjZ_y rfl rfl 4 _ _ _ _ ty ?_
    refine (And.intro rfl (And.intro (fun q => ?_) (fun q => ?_)))
    · refine mjZ_y rfl rfl 2 _ _ _ _ ty ?_
      refine And.intro rfl (And.intro rfl ?_)
      exact hK σ Fr.rf h
    · exact absurd (show σ.1 f_words ≤ x3 by rw [h.2.1.1, e3]; exact nI_le (by omega) (by omega)) q
  | succ m ih =>
    intro a σ x3 ha e3 ty h hK
    have h1024 := h.2.1.2.1
    obtain ⟨v, hv, ed⟩ := drop1 ha
    refine mjZ_y rfl rfl 4 _ _ _ _ ty ?_
    refine (And.intro rfl (And.intro (fun q => ?_) (fun q => ?_)))
    · exact absurd (show σ.1 f_words ≤ x3 from q) (by rw [h.2.1.1, e3]; exact nI_ge (by omega) (by omega))
    · refine mjZ_y rfl rfl 5 _ _ _ _ ty ?_
      refine (And.intro (Nat.le_of_ble_eq_true rfl) (And.intro rfl (And.intro (Nat.le_of_ble_eq_true rfl) (And.intro (Nat.le_of_ble_eq_true rfl) (mjY_mono ty (fun q_ u1 ty1 h_ => ?_) (w_member h ty (w := w) hv e2 e3))))))
      obtain ⟨r, rfl, f1, h1, hr⟩ := h_
      intro _
      have ek : r = -1 ∨ ∃ P y Q z, ks = P ++ y :: Q ∧ z ∈ y.2.2.2.2.2.2 ∧ r = nI z.1 := by
        rcases hr with ⟨-, er⟩ | ⟨-, P, y, Q, F1, t, F2, g0, -, -, hF, -, er⟩
        · exact Or.inl er
        · exact Or.inr ⟨P, y, Q, t, g0, by rw [hF]; exact List.mem_append_right _ List.mem_cons_self, er⟩
      refine mjZ_y rfl rfl 1 _ _ _ _ ty1 ?_
      refine (And.intro (Nat.le_of_ble_eq_true rfl) (And.intro rfl (And.intro (Nat.le_of_ble_eq_true rfl) (And.intro (Nat.le_of_ble_eq_true rfl) (mjY_mono ty1 (fun q_ u2 ty2 h_ => ?_) (w_valueOf h1 ty1 ek))))))
      obtain ⟨rfl, h2, f2⟩ := h_
      intro _
      refine mjZ_y rfl rfl 2 _ _ _ _ ty2 ?_
      exact ih (a + 1) u2 _ (by omega) (by rw [e3]; exact nI_1 a) ty2 h2 (fun w' fw hw => hK w' (((f1.up (by decide) (by decide)).tr f2.c).tr fw) hw)
set_option maxRecDepth 100000 in
theorem c_ha_loop (K : mjK) {ws : List (List Int32)} {l : List Int32} {P Q : List KR} {y : KR} (x1 x2 x3 : Int32) : ∀ (R : List ER) (σ : mjS) (x4 : Int32), CUR y False R x4 → mjTY σ → Wd σ ws (P ++ y :: Q) l → (∀ u, Fr cF cH σ u → Wd u ws (P ++ y :: Q) l → K none u) →
    mjY mjPP (mjQQ Y) (d + 3) 121 104 [some (.ref 0), some (.int x1), some (.int x2), some (.int x3), some (.int x4)] [] σ K := by
  intro R
  induction R with
  | nil =>
    intro σ x4 hc ty h hK
    refine mjZ_y rfl rfl 2 _ _ _ _ ty ?_
    refine And.intro (fun q => ?_) (fun q => ?_)
    · refine mjZ_y rfl rfl 1 _ _ _ _ ty ?_
      refine And.intro rfl (And.intro rfl ?_)
      exact hK σ Fr.rf h
    · exact absurd (lt_m1 hc.nil) q
  | cons z R ih =>
    intro σ x4 hc ty h hK
    obtain ⟨e4, hm, hid, v4, -, -⟩ := hc.cons h
    have s136 : ∀ u : mjS, mjTY u → Wd u ws (P ++ y :: Q) l → oO σ u → mjY mjPP (mjQQ Y) (d + 3) 121 136 [some (.ref 0), some (.int x1), some (.int x2), some (.int x3), some (.int x4)] [] u K := by
      intro u tu hu ou
      obtain ⟨-, -, -, -, hN, -⟩ := hc.cons hu
      refine mjZ_y rfl rfl 6 _ _ _ _ tu ?_
      refine (And.intro rfl (And.intro rfl (And.intro v4 (And.intro (Nat.le_of_ble_eq_true rfl) ?_))))
      exact ih u _ (hN id) tu hu (fun v fv hv => hK v (ou.c.tr fv) hv)
    have s121 : ∀ u : mjS, mjTY u → Wd u ws (P ++ y :: Q) l → oO σ u → mjY mjPP (mjQQ Y) (d + 3) 121 121 [some (.ref 0), some (.int x1), some (.int x2), some (.int x3), some (.int x4)] [] u K := by
      intro u tu hu ou
      obtain ⟨hs, hh, ho⟩ := hu.eid hm
      refine mjZ_y rfl rfl 3 _ _ _ _ tu ?_
      refine And.intro (fun b => ?_) (fun b => ?_)
      · exact s136 u tu hu ou
      · refine mjZ_y rfl rfl 12 _ _ _ _ tu ?_
        refine (And.intro rfl (And.intro rfl (And.intro rfl (And.intro v4 (And.intro rfl (And.intro rfl (And.intro v4 (And.intro (Nat.le_of_ble_eq_true rfl) (And.intro rfl (And.intro (Nat.le_of_ble_eq_true rfl) (And.intro (Nat.le_of_ble_eq_true rfl) (mjY_mono tu (fun q_ u1 ty1 h_ => ?_) (w_wordR hu tu ho.2.2.1 hh (by omega) e4)))))))))))))
        obtain ⟨rfl, h1, f1⟩ := h_
        intro _
        exact s136 u1 ty1 h1 (ou.tr f1)
    refine mjZ_y rfl rfl 2 _ _ _ _ ty ?_
    refine And.intro (fun q => ?_) (fun q => ?_)
    · exact absurd (show x4 < 0 from q) (lt_nI (by omega) e4)
    · obtain ⟨hs, hh, ho⟩ := h.eid hm
      refine mjZ_y rfl rfl 3 _ _ _ _ ty ?_
      refine And.intro (fun b => ?_) (fun b => ?_)
      · exact s121 σ ty h (oO.rf h.2.2.2.1)
      · refine mjZ_y rfl rfl 12 _ _ _ _ ty ?_
        refine (And.intro rfl (And.intro rfl (And.intro rfl (And.intro v4 (And.intro rfl (And.intro rfl (And.intro v4 (And.intro (Nat.le_of_ble_eq_true rfl) (And.intro rfl (And.intro (Nat.le_of_ble_eq_true rfl) (And.intro (Nat.le_of_ble_eq_true rfl) (mjY_mono ty (fun q_ u1 ty1 h_ => ?_) (w_wordR h ty ho.2.1 hh (by omega) e4)))))))))))))
        obtain ⟨rfl, h1, f1⟩ := h_
        intro _
        exact s121 u1 ty1 h1 f1
set_option maxRecDepth 100000 in
theorem r_hash {σ : mjS} {ws : List (List Int32)} {ks : List KR} {l : List Int32} (h : Wd σ ws ks l) (ty : mjTY σ) (i1 : Nat) (hi : i1 < 128) {x1 : Int32} (e1 : x1 = nI i1) {w v : List Int32} (h1 : ws[1]? = some w) (h2 : i1 ∈ [54, 57, 59] → ws[2]? = some v) (hw2 : i1 = 55 → 2 ≤ ws.length) : mjY mjPP (mjQQ Y) (d + 6) 121 0 (mjL0 5 [.ref 0, .int x1]) [] σ (cmdK σ ws ks l i1 none) := by
  have nn : ∀ c : Nat, c < 128 → ((¬ x1 = nI c) ↔ ¬ i1 = c) := fun c hc => by rw [e1, nI_eq (by omega) (by omega)]
  refine mjZ_y rfl rfl 3 _ _ _ _ ty ?_
  refine (And.intro (Nat.le_of_ble_eq_true rfl) (And.intro rfl (And.intro (Nat.le_of_ble_eq_true rfl) (And.intro (Nat.le_of_ble_eq_true rfl) (mjY_mono ty (fun q_ u1 ty1 h_ => ?_) (w_key h ty h1 (x := Int32.ofInt 1) rfl))))))
  obtain ⟨rfl, rfl⟩ := h_
  intro _
  refine mjZ_y rfl rfl 4 _ _ _ _ ty ?_
  refine (And.intro (Nat.le_of_ble_eq_true rfl) (And.intro (fun a => ?_) (fun a => ?_)))
  · have a := (nn 54 (by decide)).mp a
    refine mjZ_y rfl rfl 3 _ _ _ _ ty ?_
    refine And.intro (fun b => ?_) (fun b => ?_)
    · have b := (nn 55 (by decide)).mp b
      refine mjZ_y rfl rfl 3 _ _ _ _ ty ?_
      refine And.intro (fun c => ?_) (fun c => ?_)
      · have c := (nn 57 (by decide)).mp c
        refine mjZ_y rfl rfl 3 _ _ _ _ ty ?_
        refine And.intro (fun e => ?_) (fun e => ?_)
        · have e := (nn 58 (by decide)).mp e
          refine mjZ_y rfl rfl 3 _ _ _ _ ty ?_
          refine And.intro (fun f => ?_) (fun f => ?_)
          · -- all fields, all values
            have s88 : ∀ x3 : Int32, mjY mjPP (mjQQ Y) (d + 6) 121 89 [some (.ref 0), some (.int x1), some (.int (kyS ks w)), some (.int x3), none] [] u1 (cmdK u1 ws ks l i1 none) := by
              intro x3
              refine mjZ_y rfl rfl 5 _ _ _ _ ty ?_
              refine (And.intro (Nat.le_of_ble_eq_true rfl) (And.intro rfl (And.intro (Nat.le_of_ble_eq_true rfl) (And.intro (Nat.le_of_ble_eq_true rfl) (mjY_mono ty (fun q_ u2 ty2 h_ => ?_) (w_many h ty (w := w) rfl))))))
              obtain ⟨rfl, rfl⟩ := h_
              intro _
              refine mjZ_y rfl rfl 2 _ _ _ _ ty ?_
              refine (And.intro (Nat.le_of_ble_eq_true rfl) (And.intro rfl (And.intro (Nat.le_of_ble_eq_true rfl) (And.intro (Nat.le_of_ble_eq_true rfl) (mjY_mono ty (fun q_ u3 ty3 h_ => ?_) (w_row h ty _))))))
              obtain ⟨rfl, h3, f3⟩ := h_
              intro _
              refine mjZ_y rfl rfl 2 _ _ _ _ ty3 ?_
              refine And.intro (fun q => ?_) (fun q => ?_)
              · have q := (ky_ge h w).1.mp q
                obtain ⟨P, y, Q, g0, g1, g2, -⟩ := ky_some q
                have ey : kyS ks w = nI y.1 := g2
                generalize kyS ks w = x2 at ey
                subst g0
                obtain ⟨-, -, -, vk⟩ := W_tail h3 ey
                have hd := CUR.head h3 ey (bk := False)
                refine mjZ_y rfl rfl 5 _ _ _ _ ty3 ?_
                refine (And.intro rfl (And.intro rfl (And.intro vk (And.intro (Nat.le_of_ble_eq_true rfl) ?_))))
                exact c_ha_loop _ x1 x2 x3 y.2.2.2.2.2.2 u3 _ (hd.1 id) ty3 h3 (fun u fu hu => ⟨rfl, f3.c.tr fu, _, hu, rfl⟩)
              · refine mjZ_y rfl rfl 1 _ _ _ _ ty3 ?_
                refine And.intro rfl (And.intro rfl ?_)
                exact ⟨rfl, f3.c, ks, h3, rfl⟩
            refine mjZ_y rfl rfl 3 _ _ _ _ ty ?_
            refine And.intro (fun g => ?_) (fun g => ?_)
            · refine mjZ_y rfl rfl 2 _ _ _ _ ty ?_
              refine (And.intro (Nat.le_of_ble_eq_true rfl) ?_)
              exact s88 _
            · refine mjZ_y rfl rfl 3 _ _ _ _ ty ?_
              refine (And.intro (Nat.le_of_ble_eq_true rfl) ?_)
              exact s88 _
          · have f : i1 = 59 := Decidable.of_not_not (fun t => f ((nn 59 (by decide)).mpr t))
            refine mjZ_y rfl rfl 4 _ _ _ _ ty ?_
            refine (And.intro (Nat.le_of_ble_eq_true rfl) (And.intro rfl (And.intro (Nat.le_of_ble_eq_true rfl) (And.intro (Nat.le_of_ble_eq_true rfl) (mjY_mono ty (fun q_ u2 ty2 h_ => ?_) (w_member h ty (w := w) (h2 (by rw [f]; decide)) rfl (x2 := Int32.ofInt 2) rfl))))))
            obtain ⟨r, rfl, f3, h3, hr⟩ := h_
            intro _
            have f3c : Fr cF cH u1 u2 := f3.up (by decide) (by decide)
            have tail : ∀ z : Int64, mjY mjPP (mjQQ Y) (d + 6) 121 80 [some (.ref 0), some (.int x1), some (.int (kyS ks w)), some (.int r), none] [.long z, .ref 0] u2 (cmdK u1 ws ks l i1 none) := by
              intro z
              refine mjZ_y rfl rfl 1 _ _ _ _ ty2 ?_
              refine (And.intro (Nat.le_of_ble_eq_true rfl) (And.intro rfl (And.intro (Nat.le_of_ble_eq_true rfl) (And.intro (Nat.le_of_ble_eq_true rfl) (mjY_mono ty2 (fun q_ u4 ty4 h_ => ?_) (w_number h3 ty2 _))))))
              obtain ⟨rfl, h4, f4⟩ := h_
              intro _
              refine mjZ_y rfl rfl 2 _ _ _ _ ty4 ?_
              refine And.intro rfl (And.intro rfl ?_)
              exact ⟨rfl, f3c.tr f4.c, ks, h4, rfl⟩
            refine mjZ_y rfl rfl 4 _ _ _ _ ty2 ?_
            refine (And.intro (Nat.le_of_ble_eq_true rfl) (And.intro (fun q => ?_) (fun q => ?_)))
            · rcases hr with ⟨-, er⟩ | ⟨-, P, y, Q, F1, t, F2, g0, -, -, hF, -, er⟩
              · exact absurd q (ge_m1 er)
              · have h' : Wd u2 ws (P ++ y :: Q) l := by rw [← g0]; exact h3
                have tid := (h'.eid (y := t) (by rw [hF]; exact List.mem_append_right _ List.mem_cons_self)).elim (fun _ k => k.2.1)
                have v3 : vp_in r 10000 := by rw [er]; exact vp_in_nI tid (by decide)
                refine mjZ_y rfl rfl 5 _ _ _ _ ty2 ?_
                refine (And.intro rfl (And.intro rfl (And.intro v3 ?_)))
                exact tail _
            · refine mjZ_y rfl rfl 2 _ _ _ _ ty2 ?_
              exact tail _
        · refine mjZ_y rfl rfl 4 _ _ _ _ ty ?_
          refine (And.intro (Nat.le_of_ble_eq_true rfl) (And.intro rfl (And.intro (Nat.le_of_ble_eq_true rfl) (And.intro (Nat.le_of_ble_eq_true rfl) (mjY_mono ty (fun q_ u2 ty2 h_ => ?_) (w_many h ty (w := w) rfl))))))
          obtain ⟨rfl, rfl⟩ := h_
          intro _
          refine mjZ_y rfl rfl 2 _ _ _ _ ty ?_
          refine (And.intro (Nat.le_of_ble_eq_true rfl) (And.intro rfl (And.intro (Nat.le_of_ble_eq_true rfl) (And.intro (Nat.le_of_ble_eq_true rfl) (mjY_mono ty (fun q_ u3 ty3 h_ => ?_) (w_number h ty _))))))
          obtain ⟨rfl, h3, f3⟩ := h_
          intro _
          refine mjZ_y rfl rfl 2 _ _ _ _ ty3 ?_
          refine And.intro rfl (And.intro rfl ?_)
          exact ⟨rfl, f3.c, ks, h3, rfl⟩
      · have c : i1 = 57 := Decidable.of_not_not (fun t => c ((nn 57 (by decide)).mpr t))
        refine mjZ_y rfl rfl 5 _ _ _ _ ty ?_
        refine (And.intro (Nat.le_of_ble_eq_true rfl) (And.intro rfl (And.intro (Nat.le_of_ble_eq_true rfl) (And.intro (Nat.le_of_ble_eq_true rfl) (mjY_mono ty (fun q_ u2 ty2 h_ => ?_) (w_member h ty (w := w) (h2 (by rw [c]; decide)) rfl (x2 := Int32.ofInt 2) rfl))))))
        obtain ⟨r, rfl, f3, h3, hr⟩ := h_
        intro _
        have f3c : Fr cF cH u1 u2 := f3.up (by decide) (by decide)
        have tail : ∀ z : Int64, mjY mjPP (mjQQ Y) (d + 6) 121 50 [some (.ref 0), some (.int x1), some (.int (kyS ks w)), none, none] [.long z, .ref 0] u2 (cmdK u1 ws ks l i1 none) := by
          intro z
          refine mjZ_y rfl rfl 1 _ _ _ _ ty2 ?_
          refine (And.intro (Nat.le_of_ble_eq_true rfl) (And.intro rfl (And.intro (Nat.le_of_ble_eq_true rfl) (And.intro (Nat.le_of_ble_eq_true rfl) (mjY_mono ty2 (fun q_ u4 ty4 h_ => ?_) (w_number h3 ty2 _))))))
          obtain ⟨rfl, h4, f4⟩ := h_
          intro _
          refine mjZ_y rfl rfl 2 _ _ _ _ ty4 ?_
          refine And.intro rfl (And.intro rfl ?_)
          exact ⟨rfl, f3c.tr f4.c, ks, h4, rfl⟩
        refine mjZ_y rfl rfl 1 _ _ _ _ ty2 ?_
        refine And.intro (fun q => ?_) (fun q => ?_)
        · refine mjZ_y rfl rfl 1 _ _ _ _ ty2 ?_
          exact tail _
        · refine mjZ_y rfl rfl 2 _ _ _ _ ty2 ?_
          exact tail _
    · have b : i1 = 55 := Decidable.of_not_not (fun t => b ((nn 55 (by decide)).mpr t))
      refine mjZ_y rfl rfl 6 _ _ _ _ ty ?_
      refine (And.intro rfl (And.intro (Nat.le_of_ble_eq_true rfl) (And.intro rfl (And.intro (Nat.le_of_ble_eq_true rfl) (And.intro (Nat.le_of_ble_eq_true rfl) (mjY_mono ty (fun q_ u2 ty2 h_ => ?_) (w_row h ty _)))))))
      obtain ⟨rfl, h3, f3⟩ := h_
      intro _
      refine mjZ_y rfl rfl 2 _ _ _ _ ty2 ?_
      refine (And.intro (Nat.le_of_ble_eq_true rfl) ?_)
      exact c_hm_loop _ x1 _ rfl (ws.length - 2) 2 u2 _ (by have := hw2 b; omega) rfl ty2 h3 (fun u fu hu => ⟨rfl, f3.c.tr fu, _, hu, rfl⟩)
  · have a : i1 = 54 := Decidable.of_not_not (fun t => a ((nn 54 (by decide)).mpr t))
    refine mjZ_y rfl rfl 5 _ _ _ _ ty ?_
    refine (And.intro (Nat.le_of_ble_eq_true rfl) (And.intro rfl (And.intro (Nat.le_of_ble_eq_true rfl) (And.intro (Nat.le_of_ble_eq_true rfl) (mjY_mono ty (fun q_ u2 ty2 h_ => ?_) (w_member h ty (w := w) (h2 (by rw [a]; decide)) rfl (x2 := Int32.ofInt 2) rfl))))))
    obtain ⟨r, rfl, f3, h3, hr⟩ := h_
    intro _
    have ek : r = -1 ∨ ∃ P y Q z, ks = P ++ y :: Q ∧ z ∈ y.2.2.2.2.2.2 ∧ r = nI z.1 := by
      rcases hr with ⟨-, er⟩ | ⟨-, P, y, Q, F1, t, F2, g0, -, -, hF, -, er⟩
      · exact Or.inl er
      · exact Or.inr ⟨P, y, Q, t, g0, by rw [hF]; exact List.mem_append_right _ List.mem_cons_self, er⟩
    refine mjZ_y rfl rfl 1 _ _ _ _ ty2 ?_
    refine (And.intro (Nat.le_of_ble_eq_true rfl) (And.intro rfl (And.intro (Nat.le_of_ble_eq_true rfl) (And.intro (Nat.le_of_ble_eq_true rfl) (mjY_mono ty2 (fun q_ u3 ty3 h_ => ?_) (w_valueOf h3 ty2 ek))))))
    obtain ⟨rfl, h4, f4⟩ := h_
    intro _
    refine mjZ_y rfl rfl 2 _ _ _ _ ty3 ?_
    refine And.intro rfl (And.intro rfl ?_)
    exact ⟨rfl, (f3.up (by decide) (by decide)).tr f4.c, ks, h4, rfl⟩
end READS2
