/-! SINTER, SUNION, SDIFF and what they store. -/
section RECKON
variable {Y : Nat → MethodName × ByteArray} {d : Nat}
def rcF (T : AE → Bool) : List (List Int32) → List AE → List (List Int32)
  | ms, [] => ms
  | ms, z :: r => rcF T (if T z = true then amE z.1 ms else ms) r
theorem rcF_mono (T : AE → Bool) : ∀ (es : List AE) (ms : List (List Int32)), ms.length ≤ (rcF T ms es).length ∧ sl ms ≤ sl (rcF T ms es) := by
  intro es
  induction es with
  | nil => intro ms; exact ⟨Nat.le_refl _, Nat.le_refl _⟩
  | cons z r ih =>
    intro ms
    show ms.length ≤ (rcF T (if T z = true then amE z.1 ms else ms) r).length ∧ sl ms ≤ sl (rcF T (if T z = true then amE z.1 ms else ms) r)
    have := ih (if T z = true then amE z.1 ms else ms)
    have am := amE_m z.1 ms
    by_cases c : T z = true
    · rw [if_pos c] at this ⊢; omega
    · rw [if_neg c] at this ⊢; exact this
def rkT (how : Nat) (A : List AK) (ws : List (List Int32)) (f a : Nat) (z : AE) : Bool := if how = 0 then alT A z.1 (ws.drop (f + 1)) else if how = 1 then !anT A z.1 ((ws.drop f).take (a - f)) else !anT A z.1 ((ws.drop (f + 1)).take (ws.length - (f + 1)))
def esA (A : List AK) (w : List Int32) : List AE := match kyI A w with
  | some p => (match A[p]? with
    | some a => a.2.2.2.2.2
    | none => [])
  | none => []
def rkL (how : Nat) (A : List AK) (ws : List (List Int32)) (f : Nat) : Nat → Nat → List (List Int32) → List (List Int32)
  | 0, _, ms => ms
  | m + 1, a, ms => rkL how A ws f m (a + 1) (rcF (rkT how A ws f a) ms (esA A (ws.getD a [])))
theorem rkL_mono (how : Nat) (A : List AK) (ws : List (List Int32)) (f : Nat) : ∀ (m a : Nat) (ms : List (List Int32)), ms.length ≤ (rkL how A ws f m a ms).length ∧ sl ms ≤ sl (rkL how A ws f m a ms) := by
  intro m
  induction m with
  | zero => intro a ms; exact ⟨Nat.le_refl _, Nat.le_refl _⟩
  | succ m ih =>
    intro a ms
    show ms.length ≤ (rkL how A ws f m (a + 1) _).length ∧ sl ms ≤ sl (rkL how A ws f m (a + 1) _)
    have := ih (a + 1) (rcF (rkT how A ws f a) ms (esA A (ws.getD a [])))
    have := rcF_mono (rkT how A ws f a) (esA A (ws.getD a [])) ms
    omega
abbrev qF : List Nat := [f_found, f_members, f_pileSize]
set_option maxRecDepth 100000 in
theorem c_rk_in (K : mjK) {ws : List (List Int32)} {l : List Int32} {P Q : List KR} {y : KR} (how f a : Nat) (hh : how < 3) (hf : f + 1 ≤ ws.length) (hfa : f ≤ a) (ha : a ≤ ws.length) (x1 x2 x3 x4 x5 : Int32) (e1 : x1 = nI how) (e2 : x2 = nI f) (e4 : x4 = nI a) : ∀ (R : List ER) (σ : mjS) (ms : List (List Int32)) (x6 : Int32) (l7 : Option Value), CUR y False R x6 → mjTY σ → Wd σ ws (P ++ y :: Q) l → PIL σ ms → (rcF (rkT how (strip (P ++ y :: Q)) ws f a) ms (R.map (fun z => z.2))).length ≤ 10000 → sl (rcF (rkT how (strip (P ++ y :: Q)) ws f a) ms (R.map (fun z => z.2))) ≤ 200000 →
    (∀ u x6 l7, mjTY u → Fr qF pH σ u → Wd u ws (P ++ y :: Q) l → PIL u (rcF (rkT how (strip (P ++ y :: Q)) ws f a) ms (R.map (fun z => z.2))) → mjY mjPP (mjQQ Y) (d + 4) 129 86 [some (.ref 0), some (.int x1), some (.int x2), some (.int x3), some (.int x4), some (.int x5), some (.int x6), l7] [] u K) →
    mjY mjPP (mjQQ Y) (d + 4) 129 33 [some (.ref 0), some (.int x1), some (.int x2), some (.int x3), some (.int x4), some (.int x5), some (.int x6), l7] [] σ K := by
  have nn : ∀ c : Nat, c < 128 → ((¬ x1 = nI c) ↔ ¬ how = c) := fun c hc => by rw [e1, nI_eq (by omega) (by omega)]
  intro R
  induction R with
  | nil =>
    intro σ ms x6 l7 hc ty h hp b1 b2 hK
    refine mjZ_y rfl rfl 2 _ _ _ _ ty ?_
    refine And.intro (fun q => ?_) (fun q => ?_)
    · exact hK σ _ _ ty Fr.rf h hp
    · exact absurd (lt_m1 hc.nil) q
  | cons z R ih =>
    intro σ ms x6 l7 hc ty h hp b1 b2 hK
    have h1024 := h.2.1.2.1
    obtain ⟨e6, hm, hid, v6, -, -⟩ := hc.cons h
    have er : rcF (rkT how (strip (P ++ y :: Q)) ws f a) ms ((z :: R).map (fun z => z.2)) = rcF (rkT how (strip (P ++ y :: Q)) ws f a) (if rkT how (strip (P ++ y :: Q)) ws f a z.2 = true then amE z.2.1 ms else ms) (R.map (fun z => z.2)) := rfl
    rw [er] at b1 b2 hK
    have e21 : x2 + Int32.ofInt 1 = nI (f + 1) := by rw [e2]; exact nI_1 f
    have tail : ∀ (u : mjS) (ms' : List (List Int32)) (x7 : Int32), mjTY u → Fr qF pH σ u → Wd u ws (P ++ y :: Q) l → PIL u ms' → ms' = (if rkT how (strip (P ++ y :: Q)) ws f a z.2 = true then amE z.2.1 ms else ms) → mjY mjPP (mjQQ Y) (d + 4) 129 80 [some (.ref 0), some (.int x1), some (.int x2), some (.int x3), some (.int x4), some (.int x5), some (.int x6), some (.int x7)] [] u K := by
      intro u ms' x7 tu fu hu hpu ems
      subst ems
      obtain ⟨-, -, -, -, hN, -⟩ := hc.cons hu
      refine mjZ_y rfl rfl 6 _ _ _ _ tu ?_
      refine (And.intro rfl (And.intro rfl (And.intro v6 (And.intro (Nat.le_of_ble_eq_true rfl) ?_))))
      exact ih u _ _ _ (hN id) tu hu hpu b1 b2 (fun v x6 l7 tv fv hv hpv => hK v x6 l7 tv (fu.tr fv) hv hpv)
    have s75 : ∀ (u : mjS) (x7 : Int32), mjTY u → Fr [f_found] [] σ u → Wd u ws (P ++ y :: Q) l → (x7 = if rkT how (strip (P ++ y :: Q)) ws f a z.2 = true then 1 else 0) → mjY mjPP (mjQQ Y) (d + 4) 129 75 [some (.ref 0), some (.int x1), some (.int x2), some (.int x3), some (.int x4), some (.int x5), some (.int x6), some (.int x7)] [] u K := by
      intro u x7 tu fu hu e7
      have hpu : PIL u ms := hp.fr fu (by decide) (by decide) (by decide) (by decide) (by decide)
      have fuq : Fr qF pH σ u := fu.up (by decide) (fun _ q => by cases q)
      refine mjZ_y rfl rfl 2 _ _ _ _ tu ?_
      refine And.intro (fun q => ?_) (fun q => ?_)
      · have q : ¬ rkT how (strip (P ++ y :: Q)) ws f a z.2 = true := fun t => by rw [if_pos t] at e7; exact absurd (e7.symm.trans q) (by decide)
        exact tail u ms x7 tu fuq hu hpu (if_neg q).symm
      · have q : rkT how (strip (P ++ y :: Q)) ws f a z.2 = true := Decidable.of_not_not (fun t => q (by rw [if_neg t] at e7; exact e7))
        rw [if_pos q] at b1 b2
        have mo := rcF_mono (rkT how (strip (P ++ y :: Q)) ws f a) (R.map (fun z => z.2)) (amE z.2.1 ms)
        have am := amE_m z.2.1 ms
        refine mjZ_y rfl rfl 3 _ _ _ _ tu ?_
        refine (And.intro (Nat.le_of_ble_eq_true rfl) (And.intro rfl (And.intro (Nat.le_of_ble_eq_true rfl) (And.intro (Nat.le_of_ble_eq_true rfl) (mjY_mono tu (fun q_ u2 ty2 h_ => ?_) (w_addMember hu tu hm e6 hpu (by omega) (by omega)))))))
        obtain ⟨rfl, f2, p2⟩ := h_
        intro _
        exact tail u2 _ x7 ty2 (fuq.tr (f2.up (by decide) (fun _ q => q))) (hu.fr f2 (by decide) (by decide)) p2 (if_pos q).symm
    refine mjZ_y rfl rfl 2 _ _ _ _ ty ?_
    refine And.intro (fun q => ?_) (fun q => ?_)
    · exact absurd (show x6 < 0 from q) (lt_nI (by omega) e6)
    · refine mjZ_y rfl rfl 4 _ _ _ _ ty ?_
      refine (And.intro (Nat.le_of_ble_eq_true rfl) (And.intro (fun a0 => ?_) (fun a0 => ?_)))
      · have a0 := (nn 0 (by decide)).mp a0
        refine mjZ_y rfl rfl 3 _ _ _ _ ty ?_
        refine And.intro (fun a1 => ?_) (fun a1 => ?_)
        · have a1 := (nn 1 (by decide)).mp a1
          have h2 : how = 2 := by omega
          refine mjZ_y rfl rfl 3 _ _ _ _ ty ?_
          refine And.intro (fun a2 => ?_) (fun a2 => ?_)
          · exact absurd h2 ((nn 2 (by decide)).mp a2)
          · have et : rkT how (strip (P ++ y :: Q)) ws f a z.2 = !anT (strip (P ++ y :: Q)) z.2.1 ((ws.drop (f + 1)).take (ws.length - (f + 1))) := by unfold rkT; rw [if_neg a0, if_neg a1]
            have hcl : mjY mjPP (mjQQ Y) (d + 3) 127 0 (mjL0 5 [.ref 0, .int x6, .int (x2 + Int32.ofInt 1), .int (σ.1 f_words)]) [] σ (fun r u => Fr [f_found] [] σ u ∧ Wd u ws (P ++ y :: Q) l ∧ r = some (.int (if anT (strip (P ++ y :: Q)) z.2.1 ((ws.drop (f + 1)).take (ws.length - (f + 1))) = true then 1 else 0))) := by
              refine mjZ_y rfl rfl 2 _ _ _ _ ty ?_
              refine (And.intro (Nat.le_of_ble_eq_true rfl) ?_)
              exact c_inAny _ rfl hm x6 _ _ e6 ws.length h.2.1.1 (ws.length - (f + 1)) (f + 1) σ _ (by omega) (Nat.le_refl _) e21 ty h (fun u fu hu => ⟨fu, hu, rfl⟩)
            refine mjZ_y rfl rfl 8 _ _ _ _ ty ?_
            refine (And.intro rfl (And.intro (Nat.le_of_ble_eq_true rfl) (And.intro rfl (And.intro (Nat.le_of_ble_eq_true rfl) (And.intro (Nat.le_of_ble_eq_true rfl) (mjY_mono ty (fun q_ u2 ty2 h_ => ?_) (hcl)))))))
            obtain ⟨f2, h3, rfl⟩ := h_
            intro _
            refine mjZ_y rfl rfl 1 _ _ _ _ ty2 ?_
            refine And.intro (fun c => ?_) (fun c => ?_)
            · refine mjZ_y rfl rfl 2 _ _ _ _ ty2 ?_
              refine (And.intro (Nat.le_of_ble_eq_true rfl) ?_)
              refine s75 u2 _ ty2 f2 h3 ?_
              rw [et]
              cases ha : anT (strip (P ++ y :: Q)) z.2.1 ((ws.drop (f + 1)).take (ws.length - (f + 1)))
              · rw [ha] at c; exact absurd rfl c
              · rfl
            · refine mjZ_y rfl rfl 3 _ _ _ _ ty2 ?_
              refine (And.intro (Nat.le_of_ble_eq_true rfl) ?_)
              refine s75 u2 _ ty2 f2 h3 ?_
              rw [et]
              cases ha : anT (strip (P ++ y :: Q)) z.2.1 ((ws.drop (f + 1)).take (ws.length - (f + 1)))
              · rfl
              · rw [ha] at c; exact absurd (show ¬ (1 : Int32) = 0 by decide) c
        · have a1 : how = 1 := Decidable.of_not_not (fun t => a1 ((nn 1 (by decide)).mpr t))
          have et : rkT how (strip (P ++ y :: Q)) ws f a z.2 = !anT (strip (P ++ y :: Q)) z.2.1 ((ws.drop f).take (a - f)) := by unfold rkT; rw [if_neg a0, if_pos a1]
          have hcl : mjY mjPP (mjQQ Y) (d + 3) 127 0 (mjL0 5 [.ref 0, .int x6, .int x2, .int x4]) [] σ (fun r u => Fr [f_found] [] σ u ∧ Wd u ws (P ++ y :: Q) l ∧ r = some (.int (if anT (strip (P ++ y :: Q)) z.2.1 ((ws.drop f).take (a - f)) = true then 1 else 0))) := by
            refine mjZ_y rfl rfl 2 _ _ _ _ ty ?_
            refine (And.intro (Nat.le_of_ble_eq_true rfl) ?_)
            exact c_inAny _ rfl hm x6 _ _ e6 a e4 (a - f) f σ _ (by omega) ha e2 ty h (fun u fu hu => ⟨fu, hu, rfl⟩)
          have s59 : ∀ (u : mjS) (x7 : Int32), mjTY u → Fr [f_found] [] σ u → Wd u ws (P ++ y :: Q) l → (x7 = if rkT how (strip (P ++ y :: Q)) ws f a z.2 = true then 1 else 0) → mjY mjPP (mjQQ Y) (d + 4) 129 59 [some (.ref 0), some (.int x1), some (.int x2), some (.int x3), some (.int x4), some (.int x5), some (.int x6), some (.int x7)] [] u K := by
            intro u x7 tu fu hu e7
            refine mjZ_y rfl rfl 3 _ _ _ _ tu ?_
            refine And.intro (fun a2 => ?_) (fun a2 => ?_)
            · exact s75 u x7 tu fu hu e7
            · exact absurd (Decidable.of_not_not (fun t => a2 ((nn 2 (by decide)).mpr t))) (show ¬ how = 2 by omega)
          refine mjZ_y rfl rfl 5 _ _ _ _ ty ?_
          refine (And.intro (Nat.le_of_ble_eq_true rfl) (And.intro rfl (And.intro (Nat.le_of_ble_eq_true rfl) (And.intro (Nat.le_of_ble_eq_true rfl) (mjY_mono ty (fun q_ u2 ty2 h_ => ?_) (hcl))))))
          obtain ⟨f2, h3, rfl⟩ := h_
          intro _
          refine mjZ_y rfl rfl 1 _ _ _ _ ty2 ?_
          refine And.intro (fun c => ?_) (fun c => ?_)
          · refine mjZ_y rfl rfl 2 _ _ _ _ ty2 ?_
            refine (And.intro (Nat.le_of_ble_eq_true rfl) ?_)
            refine s59 u2 _ ty2 f2 h3 ?_
            rw [et]
            cases ha : anT (strip (P ++ y :: Q)) z.2.1 ((ws.drop f).take (a - f))
            · rw [ha] at c; exact absurd rfl c
            · rfl
          · refine mjZ_y rfl rfl 3 _ _ _ _ ty2 ?_
            refine (And.intro (Nat.le_of_ble_eq_true rfl) ?_)
            refine s59 u2 _ ty2 f2 h3 ?_
            rw [et]
            cases ha : anT (strip (P ++ y :: Q)) z.2.1 ((ws.drop f).take (a - f))
            · rfl
            · rw [ha] at c; exact absurd (show ¬ (1 : Int32) = 0 by decide) c
      · have a0 : how = 0 := Decidable.of_not_not (fun t => a0 ((nn 0 (by decide)).mpr t))
        have et : rkT how (strip (P ++ y :: Q)) ws f a z.2 = alT (strip (P ++ y :: Q)) z.2.1 (ws.drop (f + 1)) := by unfold rkT; rw [if_pos a0]
        have hcl : mjY mjPP (mjQQ Y) (d + 3) 126 0 (mjL0 4 [.ref 0, .int x6, .int (x2 + Int32.ofInt 1)]) [] σ (fun r u => Fr [f_found] [] σ u ∧ Wd u ws (P ++ y :: Q) l ∧ r = some (.int (if alT (strip (P ++ y :: Q)) z.2.1 (ws.drop (f + 1)) = true then 1 else 0))) := by
          refine mjZ_y rfl rfl 2 _ _ _ _ ty ?_
          refine (And.intro (Nat.le_of_ble_eq_true rfl) ?_)
          exact c_inAll _ rfl hm x6 _ e6 (ws.length - (f + 1)) (f + 1) σ _ (by omega) e21 ty h (fun u fu hu => ⟨fu, hu, rfl⟩)
        refine mjZ_y rfl rfl 6 _ _ _ _ ty ?_
        refine (And.intro (Nat.le_of_ble_eq_true rfl) (And.intro rfl (And.intro (Nat.le_of_ble_eq_true rfl) (And.intro (Nat.le_of_ble_eq_true rfl) (mjY_mono ty (fun q_ u2 ty2 h_ => ?_) (hcl))))))
        obtain ⟨f2, h3, rfl⟩ := h_
        intro _
        refine mjZ_y rfl rfl 4 _ _ _ _ ty2 ?_
        refine (And.intro (Nat.le_of_ble_eq_true rfl) (And.intro (fun c => ?_) (fun c => ?_)))
        · refine mjZ_y rfl rfl 3 _ _ _ _ ty2 ?_
          refine And.intro (fun a2 => ?_) (fun a2 => ?_)
          · exact s75 u2 _ ty2 f2 h3 (by rw [et])
          · exact absurd (Decidable.of_not_not (fun t => a2 ((nn 2 (by decide)).mpr t))) (show ¬ how = 2 by omega)
        · exact absurd (Decidable.of_not_not (fun t => c ((nn 1 (by decide)).mpr t))) (show ¬ how = 1 by omega)
set_option maxRecDepth 100000 in
theorem c_rk_out (K : mjK) {ws : List (List Int32)} {ks : List KR} {l : List Int32} (how f e : Nat) (hh : how < 3) (hf : f + 1 ≤ ws.length) (he : e ≤ ws.length) (x1 x2 x3 : Int32) (e1 : x1 = nI how) (e2 : x2 = nI f) (e3 : x3 = nI e) : ∀ (m a : Nat) (σ : mjS) (ms : List (List Int32)) (x4 : Int32) (l5 l6 l7 : Option Value), a + m = e → f ≤ a → x4 = nI a → mjTY σ → Wd σ ws ks l → PIL σ ms → (rkL how (strip ks) ws f m a ms).length ≤ 10000 → sl (rkL how (strip ks) ws f m a ms) ≤ 200000 →
    (∀ u, Fr qF pH σ u → Wd u ws ks l → PIL u (rkL how (strip ks) ws f m a ms) → K none u) →
    mjY mjPP (mjQQ Y) (d + 4) 129 18 [some (.ref 0), some (.int x1), some (.int x2), some (.int x3), some (.int x4), l5, l6, l7] [] σ K := by
  intro m
  induction m with
  | zero =>
    intro a σ ms x4 l5 l6 l7 ha hfa e4 ty h hp b1 b2 hK
    have h1024 := h.2.1.2.1
    refine mjZ_y rfl rfl 3 _ _ _ _ ty ?_
    refine And.intro (fun q => ?_) (fun q => ?_)
    · refine mjZ_y rfl rfl 1 _ _ _ _ ty ?_
      refine And.intro rfl (And.intro rfl ?_)
      exact hK σ Fr.rf h hp
    · exact absurd (show x3 ≤ x4 by rw [e3, e4]; exact nI_le (by omega) (by omega)) q
  | succ m ih =>
    intro a σ ms x4 l5 l6 l7 ha hfa e4 ty h hp b1 b2 hK
    have h1024 := h.2.1.2.1
    have hal : a < ws.length := by omega
    have hw : ws[a]? = some ws[a] := List.getElem?_eq_getElem hal
    have ew : ws.getD a [] = ws[a] := by rw [List.getD_eq_getElem?_getD, hw]; rfl
    have er : rkL how (strip ks) ws f (m + 1) a ms = rkL how (strip ks) ws f m (a + 1) (rcF (rkT how (strip ks) ws f a) ms (esA (strip ks) (ws.getD a []))) := rfl
    rw [er, ew] at b1 b2 hK
    generalize ws[a] = w at hw ew b1 b2 hK
    have mo := rkL_mono how (strip ks) ws f m (a + 1) (rcF (rkT how (strip ks) ws f a) ms (esA (strip ks) w))
    have nxt : ∀ (u : mjS) (l5 l6 l7 : Option Value), mjTY u → Fr qF pH σ u → Wd u ws ks l → PIL u (rcF (rkT how (strip ks) ws f a) ms (esA (strip ks) w)) → mjY mjPP (mjQQ Y) (d + 4) 129 86 [some (.ref 0), some (.int x1), some (.int x2), some (.int x3), some (.int x4), l5, l6, l7] [] u K := by
      intro u l5 l6 l7 tu fu hu hpu
      refine mjZ_y rfl rfl 2 _ _ _ _ tu ?_
      exact ih (a + 1) u _ _ _ _ _ (by omega) (by omega) (by rw [e4]; exact nI_1 a) tu hu hpu b1 b2 (fun v fv hv hpv => hK v (fu.tr fv) hv hpv)
    refine mjZ_y rfl rfl 3 _ _ _ _ ty ?_
    refine And.intro (fun q => ?_) (fun q => ?_)
    · exact absurd (show x3 ≤ x4 from q) (by rw [e3, e4]; exact nI_ge (by omega) (by omega))
    · refine mjZ_y rfl rfl 3 _ _ _ _ ty ?_
      refine (And.intro (Nat.le_of_ble_eq_true rfl) (And.intro rfl (And.intro (Nat.le_of_ble_eq_true rfl) (And.intro (Nat.le_of_ble_eq_true rfl) (mjY_mono ty (fun q_ u1 ty1 h_ => ?_) (w_key h ty hw e4))))))
      obtain ⟨rfl, rfl⟩ := h_
      intro _
      refine mjZ_y rfl rfl 3 _ _ _ _ ty ?_
      refine (And.intro (Nat.le_of_ble_eq_true rfl) (And.intro (fun c => ?_) (fun c => ?_)))
      · have c := (ky_ge h w).1.mp c
        obtain ⟨P, y, Q, g0, g1, g2, -⟩ := ky_some c
        have e5 : kyS ks w = nI y.1 := g2
        generalize kyS ks w = x5 at e5
        subst g0
        have ees : esA (strip (P ++ y :: Q)) w = y.2.2.2.2.2.2.map (fun z => z.2) := by
          unfold esA; rw [g1]
          show (match (strip (P ++ y :: Q))[P.length]? with | some a => a.2.2.2.2.2 | none => []) = _
          rw [strip_gt]; rfl
        rw [ees] at mo nxt
        obtain ⟨-, -, -, vk⟩ := W_tail h e5
        have hd := CUR.head h e5 (bk := False)
        refine mjZ_y rfl rfl 5 _ _ _ _ ty ?_
        refine (And.intro rfl (And.intro rfl (And.intro vk (And.intro (Nat.le_of_ble_eq_true rfl) ?_))))
        exact c_rk_in K how f a hh hf hfa (by omega) x1 x2 x3 x4 x5 e1 e2 e4 y.2.2.2.2.2.2 u1 ms _ _ (hd.1 id) ty h hp (by rw [ees] at b1; omega) (by rw [ees] at b2; omega) (fun u x6 l7 tu fu hu hpu => nxt u _ _ _ tu fu hu hpu)
      · have c : kyI (strip ks) w = none := Decidable.of_not_not (fun z => c ((ky_ge h w).1.mpr z))
        have ees : esA (strip ks) w = [] := by unfold esA; rw [c]
        rw [ees] at nxt
        refine mjZ_y rfl rfl 1 _ _ _ _ ty ?_
        exact nxt u1 _ _ _ ty Fr.rf h hp
def rkM (how : Nat) (A : List AK) (ws : List (List Int32)) (f : Nat) : List (List Int32) := rkL how A ws f (if how = 1 then ws.length - f else 1) f []
set_option maxRecDepth 100000 in
theorem w_reckon {σ : mjS} {ws : List (List Int32)} {ks : List KR} {l : List Int32} (h : Wd σ ws ks l) (ty : mjTY σ) (how f : Nat) (hh : how < 3) (hf : f + 1 ≤ ws.length) {x1 x2 : Int32} (e1 : x1 = nI how) (e2 : x2 = nI f) (b1 : (rkM how (strip ks) ws f).length ≤ 10000) (b2 : sl (rkM how (strip ks) ws f) ≤ 200000) : mjY mjPP (mjQQ Y) (d + 4) 129 0 (mjL0 8 [.ref 0, .int x1, .int x2]) [] σ (fun r u => r = none ∧ Fr qF pH σ u ∧ Wd u ws ks l ∧ PIL u (rkM how (strip ks) ws f)) := by
  have h1024 := h.2.1.2.1
  have nn : ∀ c : Nat, c < 128 → ((¬ x1 = nI c) ↔ ¬ how = c) := fun c hc => by rw [e1, nI_eq (by omega) (by omega)]
  refine mjZ_y rfl rfl 6 _ _ _ _ ty ?_
  refine (And.intro rfl (And.intro (Or.inl rfl) (fun ty' => (And.intro rfl (And.intro (Or.inl rfl) (fun ty'' => ?_))))))
  have go : ∀ u : mjS, mjTY u → u = (upd (upd σ.1 f_members 0) f_pileSize 0, σ.2) → mjY mjPP (mjQQ Y) (d + 4) 129 6 [some (.ref 0), some (.int x1), some (.int x2), none, none, none, none, none] [] u (fun r u => r = none ∧ Fr qF pH σ u ∧ Wd u ws ks l ∧ PIL u (rkM how (strip ks) ws f)) := by
    intro u tu eu
    have fu : Fr qF pH σ u := by rw [eu]; exact (Fr.i (k := f_members) (by decide)).tr (Fr.i (k := f_pileSize) (by decide))
    have hu := h.fr fu (by decide) (by decide)
    have pu : PIL u [] := by
      refine ⟨?_, ?_, fun i m hi => by cases hi⟩
      · rw [eu]; exact (pk_un (f := upd σ.1 f_members 0) (k := f_pileSize) (j := f_members) (x := 0) (by decide)).trans (pk_us (f := σ.1) (k := f_members) (x := 0))
      · rw [eu]; exact pk_us (f := upd σ.1 f_members 0) (k := f_pileSize) (x := 0)
    have e21 : x2 + Int32.ofInt 1 = nI (f + 1) := by rw [e2]; exact nI_1 f
    refine mjZ_y rfl rfl 7 _ _ _ _ tu ?_
    refine (And.intro (Nat.le_of_ble_eq_true rfl) (And.intro (fun c => ?_) (fun c => ?_)))
    · have c := (nn 1 (by decide)).mp c
      have em : rkM how (strip ks) ws f = rkL how (strip ks) ws f 1 f [] := by unfold rkM; rw [if_neg c]
      rw [em] at b1 b2 ⊢
      refine mjZ_y rfl rfl 2 _ _ _ _ tu ?_
      refine (And.intro (Nat.le_of_ble_eq_true rfl) ?_)
      exact c_rk_out _ how f (f + 1) hh hf hf x1 x2 _ e1 e2 e21 1 f u [] _ _ _ _ rfl (Nat.le_refl _) e2 tu hu pu b1 b2 (fun v fv hv hpv => ⟨rfl, fu.tr fv, hv, hpv⟩)
    · have c : how = 1 := Decidable.of_not_not (fun t => c ((nn 1 (by decide)).mpr t))
      have em : rkM how (strip ks) ws f = rkL how (strip ks) ws f (ws.length - f) f [] := by unfold rkM; rw [if_pos c]
      rw [em] at b1 b2 ⊢
      refine mjZ_y rfl rfl 5 _ _ _ _ tu ?_
      refine (And.intro rfl (And.intro (Nat.le_of_ble_eq_true rfl) (And.intro (Nat.le_of_ble_eq_true rfl) ?_)))
      exact c_rk_out _ how f ws.length hh hf (Nat.le_refl _) x1 x2 _ e1 e2 hu.2.1.1 (ws.length - f) f u [] _ _ _ _ (by omega) (Nat.le_refl _) e2 tu hu pu b1 b2 (fun v fv hv hpv => ⟨rfl, fu.tr fv, hv, hpv⟩)
  exact go _ ty'' rfl
end RECKON
