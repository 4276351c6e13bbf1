/-! The options of ranges: optionsRange, limitNumbers (safe only: they serve reads alone). -/
section ORANGE2
variable {Y : Nat → MethodName × ByteArray} {d : Nat}
abbrev rgFs : List Nat := [f_optScores, f_optLimit, f_limitAt, f_limitFrom, f_limitMany, f_num, f_n1, f_n2, f_lowScore, f_highScore, f_noScore, f_answerSize, f_tooLong, f_digitsSize]
theorem oO.rg {σ u : mjS} (o : oO σ u) : Fr rgFs oH σ u := o.1.up (by decide) (by decide)
def rgL (ws : List (List Int32)) (lim x : Int32) : Prop := lim = 0 ∨ ∃ i, x = nI i ∧ i + 2 < ws.length
set_option maxRecDepth 100000 in
theorem c_og_loop (K : mjK) {ws : List (List Int32)} {ks : List KR} {l : List Int32} (x1 : Int32) : ∀ (n a : Nat) (σ : mjS) (x2 x3 : Int32), ws.length ≤ a + n → a ≤ ws.length → x2 = nI a → rgL ws (σ.1 f_optLimit) x3 → mjTY σ → Wd σ ws ks l →
    (∀ u x2 x3, mjTY u → Fr rgFs oH σ u → Wd u ws ks l → rgL ws (u.1 f_optLimit) x3 → mjY mjPP (mjQQ Y) (d + 6) 65 61 [some (.ref 0), some (.int x1), some (.int x2), some (.int x3)] [] u K) →
    (∀ u, Fr rgFs oH σ u → Wd u ws ks l → K (some (.int 0)) u) →
    mjY mjPP (mjQQ Y) (d + 6) 65 4 [some (.ref 0), some (.int x1), some (.int x2), some (.int x3)] [] σ K := by
  intro n
  induction n with
  | zero =>
    intro a σ x2 x3 hn ha e2 hx ty h hK hN
    have h1024 := h.2.1.2.1
    refine mjZ_y rfl rfl 4 _ _ _ _ ty ?_
    refine (And.intro rfl (And.intro (fun q => ?_) (fun q => ?_)))
    · exact hK σ _ _ ty Fr.rf h hx
    · exact absurd (show σ.1 f_words ≤ x2 by rw [h.2.1.1, e2]; exact nI_le (by omega) (by omega)) q
  | succ n ih =>
    intro a σ x2 x3 hn ha e2 hx ty h hK hN
    have h1024 := h.2.1.2.1
    refine mjZ_y rfl rfl 4 _ _ _ _ ty ?_
    refine (And.intro rfl (And.intro (fun q => ?_) (fun q => ?_)))
    · exact hK σ _ _ ty Fr.rf h hx
    · have q : a < ws.length := Nat.lt_of_not_le (fun z => q (show σ.1 f_words ≤ x2 by rw [h.2.1.1, e2]; exact nI_le (by omega) (by omega)))
      obtain ⟨w, hw, ed⟩ := drop1 (ws := ws) (a := a) (m := ws.length - a - 1) (by omega)
      have bad : mjY mjPP (mjQQ Y) (d + 6) 65 24 [some (.ref 0), some (.int x1), some (.int x2), some (.int x3)] [] σ K := by
        refine mjZ_y rfl rfl 2 _ _ _ _ ty ?_
        refine (And.intro (Nat.le_of_ble_eq_true rfl) (And.intro rfl (And.intro (Nat.le_of_ble_eq_true rfl) (And.intro (Nat.le_of_ble_eq_true rfl) (mjY_mono ty (fun q_ u1 ty1 h_ => ?_) (w_syntax h ty))))))
        obtain ⟨rfl, h1, f1⟩ := h_
        intro _
        refine mjZ_y rfl rfl 1 _ _ _ _ ty1 ?_
        refine And.intro rfl (And.intro (Or.inr ⟨rfl, Or.inl rfl⟩) ?_)
        exact hN u1 f1.rg h1
      have s42 : mjY mjPP (mjQQ Y) (d + 6) 65 42 [some (.ref 0), some (.int x1), some (.int x2), some (.int x3)] [] σ K := by
        have no : mjY mjPP (mjQQ Y) (d + 6) 65 51 [some (.ref 0), some (.int x1), some (.int x2), some (.int x3)] [] σ K := by
          refine mjZ_y rfl rfl 2 _ _ _ _ ty ?_
          refine (And.intro (Nat.le_of_ble_eq_true rfl) (And.intro rfl (And.intro (Nat.le_of_ble_eq_true rfl) (And.intro (Nat.le_of_ble_eq_true rfl) (mjY_mono ty (fun q_ u1 ty1 h_ => ?_) (w_syntax h ty))))))
          obtain ⟨rfl, h1, f1⟩ := h_
          intro _
          refine mjZ_y rfl rfl 1 _ _ _ _ ty1 ?_
          refine And.intro rfl (And.intro (Or.inr ⟨rfl, Or.inl rfl⟩) ?_)
          exact hN u1 f1.rg h1
        refine mjZ_y rfl rfl 3 _ _ _ _ ty ?_
        refine (And.intro rfl (And.intro (fun c => ?_) (fun c => ?_)))
        · exact no
        · refine mjZ_y rfl rfl 6 _ _ _ _ ty ?_
          refine (And.intro rfl (And.intro (fun b => ?_) (fun b => ?_)))
          · have e22 : x2 + Int32.ofInt 2 = nI (a + 2) := by rw [e2]; exact nI_add a 2
            have b : a + 2 < ws.length := by
              refine Nat.lt_of_not_le (fun z => ?_)
              have b : x2 + Int32.ofInt 2 < σ.1 f_words := b
              rw [h.2.1.1, e22] at b
              exact Int32.not_lt.mpr (nI_le z (by omega)) b
            refine mjZ_y rfl rfl 7 _ _ _ _ ty ?_
            refine (And.intro rfl (And.intro (Or.inr ⟨rfl, Or.inr rfl⟩) (fun ty' => (And.intro (Nat.le_of_ble_eq_true rfl) ?_))))
            have f1 : Fr [f_optLimit] [] σ (upd σ.1 f_optLimit 1, σ.2) := Fr.i (by decide)
            refine ih (a + 3) (upd σ.1 f_optLimit 1, σ.2) _ _ (by omega) (by omega) (by rw [e2]; exact nI_add a 3) (Or.inr ⟨a, e2, b⟩) ty' (h.fr f1 (by decide) (by decide)) (fun u x2 x3 tu fu hu hxu => hK u x2 x3 tu ((f1.up (by decide) (by decide)).tr fu) hu hxu) (fun u fu hu => hN u ((f1.up (by decide) (by decide)).tr fu) hu)
          · exact no
      have s27 : mjY mjPP (mjQQ Y) (d + 6) 65 27 [some (.ref 0), some (.int x1), some (.int x2), some (.int x3)] [] σ K := by
        refine mjZ_y rfl rfl 3 _ _ _ _ ty ?_
        refine (And.intro (Nat.le_of_ble_eq_true rfl) (And.intro rfl (And.intro (Nat.le_of_ble_eq_true rfl) (And.intro (Nat.le_of_ble_eq_true rfl) (mjY_mono ty (fun q_ u1 ty1 h_ => ?_) (c_isScores h ty hw e2))))))
        obtain ⟨b0, rfl, rfl⟩ := h_
        intro _
        refine mjZ_y rfl rfl 1 _ _ _ _ ty1 ?_
        refine And.intro (fun c => ?_) (fun c => ?_)
        · exact s42
        · refine mjZ_y rfl rfl 3 _ _ _ _ ty1 ?_
          refine (And.intro rfl (And.intro (fun b => ?_) (fun b => ?_)))
          · refine mjZ_y rfl rfl 5 _ _ _ _ ty1 ?_
            refine (And.intro rfl (And.intro (Or.inr ⟨rfl, Or.inr rfl⟩) (fun ty1' => ?_)))
            have f1 : Fr [f_optScores] [] u1 (upd u1.1 f_optScores 1, u1.2) := Fr.i (by decide)
            refine ih (a + 1) (upd u1.1 f_optScores 1, u1.2) _ _ (by omega) (by omega) (by rw [e2]; exact nI_1 a) (by rw [f1.1 f_optLimit (by decide)]; exact hx) ty1' (h.fr f1 (by decide) (by decide)) (fun u x2 x3 tu fu hu hxu => hK u x2 x3 tu ((f1.up (by decide) (by decide)).tr fu) hu hxu) (fun u fu hu => hN u ((f1.up (by decide) (by decide)).tr fu) hu)
          · refine mjZ_y rfl rfl 2 _ _ _ _ ty1 ?_
            refine (And.intro (Nat.le_of_ble_eq_true rfl) (And.intro rfl (And.intro (Nat.le_of_ble_eq_true rfl) (And.intro (Nat.le_of_ble_eq_true rfl) (mjY_mono ty1 (fun q_ u2 ty2 h_ => ?_) (w_syntax h ty1))))))
            obtain ⟨rfl, h2, f2⟩ := h_
            intro _
            refine mjZ_y rfl rfl 1 _ _ _ _ ty2 ?_
            refine And.intro rfl (And.intro (Or.inr ⟨rfl, Or.inl rfl⟩) ?_)
            exact hN u2 f2.rg h2
      refine mjZ_y rfl rfl 4 _ _ _ _ ty ?_
      refine (And.intro (Nat.le_of_ble_eq_true rfl) (And.intro rfl (And.intro (Nat.le_of_ble_eq_true rfl) (And.intro (Nat.le_of_ble_eq_true rfl) (mjY_mono ty (fun q_ u1 ty1 h_ => ?_) (w_is h ty hw e2 6289651024210906962))))))
      obtain ⟨rfl, rfl⟩ := h_
      intro _
      refine mjZ_y rfl rfl 1 _ _ _ _ ty1 ?_
      refine And.intro (fun c => ?_) (fun c => ?_)
      · exact bad
      · refine mjZ_y rfl rfl 3 _ _ _ _ ty1 ?_
        refine (And.intro (Nat.le_of_ble_eq_true rfl) (And.intro rfl (And.intro (Nat.le_of_ble_eq_true rfl) (And.intro (Nat.le_of_ble_eq_true rfl) (mjY_mono ty1 (fun q_ u2 ty2 h_ => ?_) (c_isScores h ty1 hw e2))))))
        obtain ⟨b0, rfl, rfl⟩ := h_
        intro _
        refine mjZ_y rfl rfl 1 _ _ _ _ ty2 ?_
        refine And.intro (fun c => ?_) (fun c => ?_)
        · exact s27
        · refine mjZ_y rfl rfl 2 _ _ _ _ ty2 ?_
          refine And.intro (fun b => ?_) (fun b => ?_)
          · exact bad
          · refine mjZ_y rfl rfl 4 _ _ _ _ ty2 ?_
            refine (And.intro (Nat.le_of_ble_eq_true rfl) (And.intro rfl (And.intro (Nat.le_of_ble_eq_true rfl) (And.intro (Nat.le_of_ble_eq_true rfl) (mjY_mono ty2 (fun q_ u3 ty3 h_ => ?_) (w_is h ty2 hw e2 327647316308))))))
            obtain ⟨rfl, rfl⟩ := h_
            intro _
            refine mjZ_y rfl rfl 1 _ _ _ _ ty3 ?_
            refine And.intro (fun k => ?_) (fun k => ?_)
            · exact s27
            · exact bad
set_option maxRecDepth 100000 in
theorem c_optionsRange {σ : mjS} {ws : List (List Int32)} {ks : List KR} {l : List Int32} (h : Wd σ ws ks l) (ty : mjTY σ) (hw : 4 ≤ ws.length) (hl : σ.1 f_optLimit = 0) (x1 : Int32) : mjY mjPP (mjQQ Y) (d + 6) 65 0 (mjL0 4 [.ref 0, .int x1]) [] σ (fun r u => ∃ b : Bool, r = some (.int (bI b)) ∧ Fr rgFs oH σ u ∧ Wd u ws ks l ∧ (b = true → x1 ≠ 0 → rgL ws (u.1 f_optLimit) (u.1 f_limitAt))) := by
  refine mjZ_y rfl rfl 4 _ _ _ _ ty ?_
  refine (And.intro (Nat.le_of_ble_eq_true rfl) (And.intro (Nat.le_of_ble_eq_true rfl) ?_))
  refine c_og_loop _ x1 (ws.length - 4) 4 σ _ _ (by omega) hw rfl (Or.inl hl) ty h (fun u x2 x3 tu fu hu hxu => ?_) (fun u fu hu => ⟨false, rfl, fu, hu, fun z => by cases z⟩)
  refine mjZ_y rfl rfl 2 _ _ _ _ tu ?_
  refine And.intro (fun c => ?_) (fun c => ?_)
  · refine mjZ_y rfl rfl 5 _ _ _ _ tu ?_
    refine (And.intro rfl (And.intro (Or.inl rfl) (fun tu' => And.intro rfl (And.intro (Or.inr ⟨rfl, Or.inr rfl⟩) ?_))))
    have f1 : Fr [f_limitAt] [] u (upd u.1 f_limitAt x3, u.2) := Fr.i (by decide)
    refine ⟨true, rfl, fu.tr (f1.up (by decide) (by decide)), hu.fr f1 (by decide) (by decide), fun _ _ => ?_⟩
    have e1 : (upd u.1 f_limitAt x3, u.2).1 f_optLimit = u.1 f_optLimit := f1.1 _ (by decide)
    have e2 : (upd u.1 f_limitAt x3, u.2).1 f_limitAt = x3 := pk_us (f := u.1) (k := f_limitAt) (x := x3)
    show rgL ws ((upd u.1 f_limitAt x3, u.2).1 f_optLimit) ((upd u.1 f_limitAt x3, u.2).1 f_limitAt)
    rw [e1, e2]; exact hxu
  · have c : x1 = 0 := Decidable.of_not_not c
    have g2 : ws[2]? = some ws[2] := List.getElem?_eq_getElem (by omega)
    have g3 : ws[3]? = some ws[3] := List.getElem?_eq_getElem (by omega)
    refine mjZ_y rfl rfl 4 _ _ _ _ tu ?_
    refine (And.intro (Nat.le_of_ble_eq_true rfl) (And.intro rfl (And.intro (Nat.le_of_ble_eq_true rfl) (And.intro (Nat.le_of_ble_eq_true rfl) (mjY_mono tu (fun q_ u2 ty2 h_ => ?_) (c_twoIntegers hu tu g2 g3 (x := Int32.ofInt 2) (y := Int32.ofInt 3) rfl rfl))))))
    obtain ⟨rfl, f2, h2, -⟩ := h_
    intro _
    refine mjZ_y rfl rfl 1 _ _ _ _ ty2 ?_
    refine And.intro rfl (And.intro (Or.inr ⟨rfl, bI_01 _⟩) ?_)
    exact ⟨_, rfl, fu.tr (f2.up (by decide) (by decide)), h2, fun _ z => absurd c z⟩
set_option maxRecDepth 100000 in
theorem c_limitNumbers {σ : mjS} {ws : List (List Int32)} {ks : List KR} {l : List Int32} (h : Wd σ ws ks l) (ty : mjTY σ) (hx : rgL ws (σ.1 f_optLimit) (σ.1 f_limitAt)) : mjY mjPP (mjQQ Y) (d + 6) 67 0 (mjL0 1 [.ref 0]) [] σ (fun r u => ∃ b : Bool, r = some (.int (bI b)) ∧ Fr rgFs oH σ u ∧ Wd u ws ks l) := by
  refine mjZ_y rfl rfl 3 _ _ _ _ ty ?_
  refine (And.intro rfl (And.intro (fun c => ?_) (fun c => ?_)))
  · rcases hx with z | ⟨i, ei, hi⟩
    · exact absurd z c
    · have g1 : ws[i + 1]? = some ws[i + 1] := List.getElem?_eq_getElem (by omega)
      have g2 : ws[i + 2]? = some ws[i + 2] := List.getElem?_eq_getElem (by omega)
      refine mjZ_y rfl rfl 6 _ _ _ _ ty ?_
      refine (And.intro rfl (And.intro (Nat.le_of_ble_eq_true rfl) (And.intro rfl (And.intro (Nat.le_of_ble_eq_true rfl) (And.intro (Nat.le_of_ble_eq_true rfl) (mjY_mono ty (fun q_ u2 ty2 h_ => ?_) (w_integer h ty g1 (x := σ.1 f_limitAt + Int32.ofInt 1) (by rw [ei]; exact nI_1 i))))))))
      obtain ⟨h2, f2, hz⟩ := h_
      intro _
      have f2r : Fr rgFs oH σ u2 := f2.up (by decide) (by decide)
      rcases hz with ⟨z, hz, rfl, -⟩ | ⟨hz, rfl⟩
      · refine mjZ_y rfl rfl 1 _ _ _ _ ty2 ?_
        refine And.intro (fun b => ?_) (fun b => ?_)
        · have el : u2.1 f_limitAt = nI i := (f2.1 _ (by decide)).trans ei
          refine mjZ_y rfl rfl 4 _ _ _ _ ty2 ?_
          refine (And.intro rfl (And.intro rfl (And.intro rfl (fun ty2' => ?_))))
          have go : ∀ u3 : mjS, mjTY u3 → u3 = (u2.1, vp_updL u2.2.1 f_limitFrom (u2.2.1 f_num), u2.2.2) → mjY mjPP (mjQQ Y) (d + 6) 67 19 [some (.ref 0)] [] u3 (fun r u => ∃ b : Bool, r = some (.int (bI b)) ∧ Fr rgFs oH σ u ∧ Wd u ws ks l) := by
            intro u3 tu3 eu3
            have f3 : Fr [f_limitFrom] [] u2 u3 := by rw [eu3]; exact Fr.l (by decide)
            have h3 := h2.fr f3 (by decide) (by decide)
            have f3r : Fr rgFs oH σ u3 := f2r.tr (f3.up (by decide) (by decide))
            refine mjZ_y rfl rfl 6 _ _ _ _ tu3 ?_
            refine (And.intro rfl (And.intro (Nat.le_of_ble_eq_true rfl) (And.intro rfl (And.intro (Nat.le_of_ble_eq_true rfl) (And.intro (Nat.le_of_ble_eq_true rfl) (mjY_mono tu3 (fun q_ u4 ty4 h_ => ?_) (w_integer h3 tu3 g2 (x := u3.1 f_limitAt + Int32.ofInt 2) (by rw [f3.1 _ (by decide), el]; exact nI_add i 2))))))))
            obtain ⟨h4, f4, hz⟩ := h_
            intro _
            have f4r : Fr rgFs oH σ u4 := f3r.tr (f4.up (by decide) (by decide))
            rcases hz with ⟨z, hz, rfl, -⟩ | ⟨hz, rfl⟩
            · refine mjZ_y rfl rfl 1 _ _ _ _ ty4 ?_
              refine And.intro (fun k => ?_) (fun k => ?_)
              · refine mjZ_y rfl rfl 6 _ _ _ _ ty4 ?_
                refine (And.intro rfl (And.intro rfl (And.intro rfl (fun ty4' => And.intro rfl (And.intro (Or.inr ⟨rfl, Or.inr rfl⟩) ?_)))))
                exact ⟨true, rfl, f4r.tr (Fr.l (by decide)), h4.fr (Fr.l (fs := [f_limitMany]) (hs := []) (by decide)) (by decide) (by decide)⟩
              · exact absurd (show ¬ (1 : Int32) = 0 by decide) k
            · refine mjZ_y rfl rfl 1 _ _ _ _ ty4 ?_
              refine And.intro (fun k => ?_) (fun k => ?_)
              · exact absurd rfl k
              · refine mjZ_y rfl rfl 2 _ _ _ _ ty4 ?_
                refine (And.intro (Nat.le_of_ble_eq_true rfl) (And.intro rfl (And.intro (Nat.le_of_ble_eq_true rfl) (And.intro (Nat.le_of_ble_eq_true rfl) (mjY_mono ty4 (fun q_ u5 ty5 h_ => ?_) (w_noInteger h4 ty4))))))
                obtain ⟨rfl, h5, f5⟩ := h_
                intro _
                refine mjZ_y rfl rfl 1 _ _ _ _ ty5 ?_
                refine And.intro rfl (And.intro (Or.inr ⟨rfl, Or.inl rfl⟩) ?_)
                exact ⟨false, rfl, f4r.tr f5.rg, h5⟩
          exact go _ ty2' rfl
        · exact absurd (show ¬ (1 : Int32) = 0 by decide) b
      · refine mjZ_y rfl rfl 1 _ _ _ _ ty2 ?_
        refine And.intro (fun b => ?_) (fun b => ?_)
        · exact absurd rfl b
        · refine mjZ_y rfl rfl 2 _ _ _ _ ty2 ?_
          refine (And.intro (Nat.le_of_ble_eq_true rfl) (And.intro rfl (And.intro (Nat.le_of_ble_eq_true rfl) (And.intro (Nat.le_of_ble_eq_true rfl) (mjY_mono ty2 (fun q_ u3 ty3 h_ => ?_) (w_noInteger h2 ty2))))))
          obtain ⟨rfl, h3, f3⟩ := h_
          intro _
          refine mjZ_y rfl rfl 1 _ _ _ _ ty3 ?_
          refine And.intro rfl (And.intro (Or.inr ⟨rfl, Or.inl rfl⟩) ?_)
          exact ⟨false, rfl, f2r.tr f3.rg, h3⟩
  · refine mjZ_y rfl rfl 2 _ _ _ _ ty ?_
    refine And.intro rfl (And.intro (Or.inr ⟨rfl, Or.inr rfl⟩) ?_)
    exact ⟨true, rfl, Fr.rf, h⟩
end ORANGE2
