/-! ZADD's options. -/
section OZADD
variable {Y : Nat → MethodName × ByteArray} {d : Nat}
abbrev F6 := Int32 × Int32 × Int32 × Int32 × Int32 × Int32
def zoT (w : List Int32) (f : F6) : Option (Option F6) := if isF w 20056 = 1 then some (if f.1 = 0 then some (1, f.2.1, f.2.2.1, f.2.2.2.1, f.2.2.2.2.1, f.2.2.2.2.2) else none) else if isF w 22616 = 1 then some (if f.2.1 = 0 then some (f.1, 1, f.2.2.1, f.2.2.2.1, f.2.2.2.2.1, f.2.2.2.2.2) else none) else if isF w 18260 = 1 then some (if f.2.2.1 = 0 then some (f.1, f.2.1, 1, f.2.2.2.1, f.2.2.2.2.1, f.2.2.2.2.2) else none) else if isF w 19540 = 1 then some (if f.2.2.2.1 = 0 then some (f.1, f.2.1, f.2.2.1, 1, f.2.2.2.2.1, f.2.2.2.2.2) else none) else if isF w 17224 = 1 then some (if f.2.2.2.2.1 = 0 then some (f.1, f.2.1, f.2.2.1, f.2.2.2.1, 1, f.2.2.2.2.2) else none) else if isF w 1229865810 = 1 then some (if f.2.2.2.2.2 = 0 then some (f.1, f.2.1, f.2.2.1, f.2.2.2.1, f.2.2.2.2.1, 1) else none) else none
def zoF : List (List Int32) → F6 → Option (F6 × List (List Int32))
  | [], f => some (f, [])
  | w :: r, f => (match zoT w f with
    | none => some (f, w :: r)
    | some none => none
    | some (some f') => zoF r f')
theorem zoF_1 {w : List Int32} {r : List (List Int32)} {f : F6} (h : zoT w f = none) : zoF (w :: r) f = some (f, w :: r) := by unfold zoF; rw [h]
theorem zoF_2 {w : List Int32} {r : List (List Int32)} {f : F6} (h : zoT w f = some none) : zoF (w :: r) f = none := by unfold zoF; rw [h]
theorem zoF_3 {w : List Int32} {r : List (List Int32)} {f f' : F6} (h : zoT w f = some (some f')) : zoF (w :: r) f = zoF r f' := by rw [zoF, h]
def ozI (σ : mjS) (f : F6) : Prop := σ.1 f_optNx = f.1 ∧ σ.1 f_optXx = f.2.1 ∧ σ.1 f_optGt = f.2.2.1 ∧ σ.1 f_optLt = f.2.2.2.1 ∧ σ.1 f_optCh = f.2.2.2.2.1 ∧ σ.1 f_optIncr = f.2.2.2.2.2
abbrev o6 : List Nat := [f_optNx, f_optXx, f_optGt, f_optLt, f_optCh, f_optIncr]
abbrev ozFs : List Nat := [f_optNx, f_optXx, f_optGt, f_optLt, f_optCh, f_optIncr, f_pairs, f_num, f_answerSize, f_tooLong, f_digitsSize]
theorem oO.oz {σ u : mjS} (o : oO σ u) : Fr ozFs oH σ u := o.1.up (by decide) (by decide)
set_option maxRecDepth 100000 in
theorem c_oz_loop (K : mjK) {ws : List (List Int32)} {ks : List KR} {l : List Int32} : ∀ (n a : Nat) (σ : mjS) (f : F6) (x1 : Int32) (l3 : Option Value), ws.length ≤ a + n → a ≤ ws.length → x1 = nI a → mjTY σ → Wd σ ws ks l → ozI σ f →
    (∀ u f' r x1 x2 l3, zoF (ws.drop a) f = some (f', r) → r = ws.drop (ws.length - r.length) → r.length ≤ ws.length → x1 = nI (ws.length - r.length) → mjTY u → Fr ozFs oH σ u → Wd u ws ks l → ozI u f' → mjY mjPP (mjQQ Y) (d + 4) 64 130 [some (.ref 0), some (.int x1), some (.int x2), l3, none] [] u K) →
    (∀ u, zoF (ws.drop a) f = none → Fr ozFs oH σ u → Wd u ws ks l → K (some (.int 0)) u) →
    mjY mjPP (mjQQ Y) (d + 4) 64 4 [some (.ref 0), some (.int x1), some (.int 1), l3, none] [] σ K := by
  intro n
  induction n with
  | zero =>
    intro a σ f x1 l3 hn ha e1 ty h hf hK hN
    have h1024 := h.2.1.2.1
    refine mjZ_y rfl rfl 2 _ _ _ _ ty ?_
    refine And.intro (fun q => ?_) (fun q => ?_)
    · exact absurd (show (1 : Int32) = 0 from q) (by decide)
    · refine mjZ_y rfl rfl 4 _ _ _ _ ty ?_
      refine (And.intro rfl (And.intro (fun q => ?_) (fun q => ?_)))
      · exact hK σ f [] _ _ _ (by rw [List.drop_of_length_le (by omega)]; rfl) (by show [] = ws.drop (ws.length - 0); rw [List.drop_of_length_le (by omega)]) (by show 0 ≤ _; omega) (by rw [e1]; show nI a = nI (ws.length - 0); congr 1; omega) ty Fr.rf h hf
      · exact absurd (show σ.1 f_words ≤ x1 by rw [h.2.1.1, e1]; exact nI_le (by omega) (by omega)) q
  | succ n ih =>
    intro a σ f x1 l3 hn ha e1 ty h hf hK hN
    have h1024 := h.2.1.2.1
    refine mjZ_y rfl rfl 2 _ _ _ _ ty ?_
    refine And.intro (fun q => ?_) (fun q => ?_)
    · exact absurd (show (1 : Int32) = 0 from q) (by decide)
    refine mjZ_y rfl rfl 4 _ _ _ _ ty ?_
    refine (And.intro rfl (And.intro (fun q => ?_) (fun q => ?_)))
    · have q : ws.length ≤ a := by
        have q : σ.1 f_words ≤ x1 := q
        rw [h.2.1.1, e1] at q; exact (nI_leI (by omega) (by omega)).mp q
      exact hK σ f [] _ _ _ (by rw [List.drop_of_length_le q]; rfl) (by show [] = ws.drop (ws.length - 0); rw [List.drop_of_length_le (by omega)]) (by show 0 ≤ _; omega) (by rw [e1]; show nI a = nI (ws.length - 0); congr 1; omega) ty Fr.rf h hf
    have q : a < ws.length := Nat.lt_of_not_le (fun z => q (show σ.1 f_words ≤ x1 by rw [h.2.1.1, e1]; exact nI_le (by omega) (by omega)))
    obtain ⟨w, hw, ed⟩ := drop1 (ws := ws) (a := a) (m := ws.length - a - 1) (by omega)
    have el : (w :: ws.drop (a + 1)).length = ws.length - a := by rw [← ed, List.length_drop]
    have good : ∀ (k : Nat) (f' : F6), k ∈ o6 → zoT w f = some (some f') → ozI (upd σ.1 k 1, σ.2) f' → mjTY (upd σ.1 k 1, σ.2) → mjY mjPP (mjQQ Y) (d + 4) 64 121 [some (.ref 0), some (.int x1), some (.int 1), some (.int 1), none] [] (upd σ.1 k 1, σ.2) K := by
      intro k f' hk hT hI tu
      have fu : Fr ozFs oH σ (upd σ.1 k 1, σ.2) := (Fr.i (fs := o6) (hs := []) hk).up (by decide) (by decide)
      have hu := h.fr (Fr.i (fs := o6) (hs := []) (v := 1) hk) (by decide) (by decide)
      rw [ed, zoF_3 hT] at hK hN
      refine mjZ_y rfl rfl 2 _ _ _ _ tu ?_
      refine And.intro (fun c => ?_) (fun c => ?_)
      · refine mjZ_y rfl rfl 2 _ _ _ _ tu ?_
        refine And.intro (fun c => ?_) (fun c => ?_)
        · exact absurd (show (1 : Int32) = 0 from c) (by decide)
        · refine mjZ_y rfl rfl 2 _ _ _ _ tu ?_
          exact ih (a + 1) _ f' _ _ (by omega) (by omega) (by rw [e1]; exact nI_1 a) tu hu hI (fun u f' r x1 x2 l3 z z1 z2 z3 tu2 fu2 hu2 hf2 => hK u f' r x1 x2 l3 z z1 z2 z3 tu2 (fu.tr fu2) hu2 hf2) (fun u z fu2 hu2 => hN u z (fu.tr fu2) hu2)
      · exact absurd (show ¬ (1 : Int32) = 0 by decide) c
    have bad : ∀ (k : Nat), k ∈ o6 → zoT w f = some none → mjTY (upd σ.1 k 1, σ.2) → mjY mjPP (mjQQ Y) (d + 4) 64 121 [some (.ref 0), some (.int x1), some (.int 1), some (.int 0), none] [] (upd σ.1 k 1, σ.2) K := by
      intro k hk hT tu
      have fu : Fr ozFs oH σ (upd σ.1 k 1, σ.2) := (Fr.i (fs := o6) (hs := []) hk).up (by decide) (by decide)
      have hu := h.fr (Fr.i (fs := o6) (hs := []) (v := 1) hk) (by decide) (by decide)
      rw [ed, zoF_2 hT] at hN
      refine mjZ_y rfl rfl 2 _ _ _ _ tu ?_
      refine And.intro (fun c => ?_) (fun c => ?_)
      · exact absurd rfl c
      · refine mjZ_y rfl rfl 2 _ _ _ _ tu ?_
        refine (And.intro (Nat.le_of_ble_eq_true rfl) (And.intro rfl (And.intro (Nat.le_of_ble_eq_true rfl) (And.intro (Nat.le_of_ble_eq_true rfl) (mjY_mono tu (fun q_ u1 ty1 h_ => ?_) (w_syntax hu tu))))))
        obtain ⟨rfl, h1, f1⟩ := h_
        intro _
        refine mjZ_y rfl rfl 1 _ _ _ _ ty1 ?_
        refine And.intro rfl (And.intro (Or.inr ⟨rfl, Or.inl rfl⟩) ?_)
        exact hN u1 rfl (fu.tr f1.oz) h1
    have stp : zoT w f = none → mjY mjPP (mjQQ Y) (d + 4) 64 121 [some (.ref 0), some (.int x1), some (.int 0), some (.int 1), none] [] σ K := by
      intro hT
      rw [ed, zoF_1 hT] at hK
      refine mjZ_y rfl rfl 2 _ _ _ _ ty ?_
      refine And.intro (fun c => ?_) (fun c => ?_)
      · refine mjZ_y rfl rfl 2 _ _ _ _ ty ?_
        refine And.intro (fun c => ?_) (fun c => ?_)
        · refine mjZ_y rfl rfl 1 _ _ _ _ ty ?_
          refine mjZ_y rfl rfl 2 _ _ _ _ ty ?_
          refine And.intro (fun c => ?_) (fun c => ?_)
          · exact hK σ f _ _ _ _ rfl (by rw [el, ← ed]; congr 1; omega) (by rw [el]; omega) (by rw [el, e1]; congr 1; omega) ty Fr.rf h hf
          · exact absurd (show (0 : Int32) = 0 from rfl) c
        · exact absurd (show (0 : Int32) = 0 from rfl) c
      · exact absurd (show ¬ (1 : Int32) = 0 by decide) c
    have b104 : ¬ isF w 20056 = 1 → ¬ isF w 22616 = 1 → ¬ isF w 18260 = 1 → ¬ isF w 19540 = 1 → ¬ isF w 17224 = 1 → mjY mjPP (mjQQ Y) (d + 4) 64 104 [some (.ref 0), some (.int x1), some (.int 0), some (.int 1), none] [] σ K := by
      intro n0 n1 n2 n3 n4
      refine mjZ_y rfl rfl 4 _ _ _ _ ty ?_
      refine (And.intro (Nat.le_of_ble_eq_true rfl) (And.intro rfl (And.intro (Nat.le_of_ble_eq_true rfl) (And.intro (Nat.le_of_ble_eq_true rfl) (mjY_mono ty (fun q_ u2 ty2 h_ => ?_) (w_is h ty hw e1 1229865810))))))
      obtain ⟨rfl, rfl⟩ := h_
      intro _
      refine mjZ_y rfl rfl 1 _ _ _ _ ty2 ?_
      refine And.intro (fun c => ?_) (fun c => ?_)
      · exact stp (by unfold zoT; rw [if_neg n0]; rw [if_neg n1]; rw [if_neg n2]; rw [if_neg n3]; rw [if_neg n4]; exact if_neg (isF_ne c))
      · refine mjZ_y rfl rfl 3 _ _ _ _ ty2 ?_
        refine (And.intro rfl (And.intro (fun b => ?_) (fun b => ?_)))
        · refine mjZ_y rfl rfl 7 _ _ _ _ ty2 ?_
          refine (And.intro (Nat.le_of_ble_eq_true rfl) (And.intro rfl (And.intro (Or.inr ⟨rfl, Or.inr rfl⟩) (fun ty2' => (And.intro (Nat.le_of_ble_eq_true rfl) ?_)))))
          exact bad f_optIncr (by decide) (by unfold zoT; rw [if_neg n0]; rw [if_neg n1]; rw [if_neg n2]; rw [if_neg n3]; rw [if_neg n4]; rw [if_pos (isF_n c), if_neg (fun z => b (hf.2.2.2.2.2.trans z))]) ty2'
        · have b : f.2.2.2.2.2 = 0 := hf.2.2.2.2.2.symm.trans (Decidable.of_not_not b)
          refine mjZ_y rfl rfl 8 _ _ _ _ ty2 ?_
          refine (And.intro (Nat.le_of_ble_eq_true rfl) (And.intro rfl (And.intro (Or.inr ⟨rfl, Or.inr rfl⟩) (fun ty2' => (And.intro (Nat.le_of_ble_eq_true rfl) ?_)))))
          exact good f_optIncr (f.1, f.2.1, f.2.2.1, f.2.2.2.1, f.2.2.2.2.1, 1) (by decide) (by unfold zoT; rw [if_neg n0]; rw [if_neg n1]; rw [if_neg n2]; rw [if_neg n3]; rw [if_neg n4]; rw [if_pos (isF_n c), if_pos b]) ⟨(pk_un (k := f_optIncr) (x := 1) (by decide)).trans hf.1, (pk_un (k := f_optIncr) (x := 1) (by decide)).trans hf.2.1, (pk_un (k := f_optIncr) (x := 1) (by decide)).trans hf.2.2.1, (pk_un (k := f_optIncr) (x := 1) (by decide)).trans hf.2.2.2.1, (pk_un (k := f_optIncr) (x := 1) (by decide)).trans hf.2.2.2.2.1, pk_us (f := u2.1) (k := f_optIncr) (x := 1)⟩ ty2'
    have b86 : ¬ isF w 20056 = 1 → ¬ isF w 22616 = 1 → ¬ isF w 18260 = 1 → ¬ isF w 19540 = 1 → mjY mjPP (mjQQ Y) (d + 4) 64 86 [some (.ref 0), some (.int x1), some (.int 0), some (.int 1), none] [] σ K := by
      intro n0 n1 n2 n3
      refine mjZ_y rfl rfl 4 _ _ _ _ ty ?_
      refine (And.intro (Nat.le_of_ble_eq_true rfl) (And.intro rfl (And.intro (Nat.le_of_ble_eq_true rfl) (And.intro (Nat.le_of_ble_eq_true rfl) (mjY_mono ty (fun q_ u2 ty2 h_ => ?_) (w_is h ty hw e1 17224))))))
      obtain ⟨rfl, rfl⟩ := h_
      intro _
      refine mjZ_y rfl rfl 1 _ _ _ _ ty2 ?_
      refine And.intro (fun c => ?_) (fun c => ?_)
      · exact b104 n0 n1 n2 n3 (isF_ne c)
      · refine mjZ_y rfl rfl 3 _ _ _ _ ty2 ?_
        refine (And.intro rfl (And.intro (fun b => ?_) (fun b => ?_)))
        · refine mjZ_y rfl rfl 8 _ _ _ _ ty2 ?_
          refine (And.intro (Nat.le_of_ble_eq_true rfl) (And.intro rfl (And.intro (Or.inr ⟨rfl, Or.inr rfl⟩) (fun ty2' => (And.intro (Nat.le_of_ble_eq_true rfl) ?_)))))
          exact bad f_optCh (by decide) (by unfold zoT; rw [if_neg n0]; rw [if_neg n1]; rw [if_neg n2]; rw [if_neg n3]; rw [if_pos (isF_n c), if_neg (fun z => b (hf.2.2.2.2.1.trans z))]) ty2'
        · have b : f.2.2.2.2.1 = 0 := hf.2.2.2.2.1.symm.trans (Decidable.of_not_not b)
          refine mjZ_y rfl rfl 9 _ _ _ _ ty2 ?_
          refine (And.intro (Nat.le_of_ble_eq_true rfl) (And.intro rfl (And.intro (Or.inr ⟨rfl, Or.inr rfl⟩) (fun ty2' => (And.intro (Nat.le_of_ble_eq_true rfl) ?_)))))
          exact good f_optCh (f.1, f.2.1, f.2.2.1, f.2.2.2.1, 1, f.2.2.2.2.2) (by decide) (by unfold zoT; rw [if_neg n0]; rw [if_neg n1]; rw [if_neg n2]; rw [if_neg n3]; rw [if_pos (isF_n c), if_pos b]) ⟨(pk_un (k := f_optCh) (x := 1) (by decide)).trans hf.1, (pk_un (k := f_optCh) (x := 1) (by decide)).trans hf.2.1, (pk_un (k := f_optCh) (x := 1) (by decide)).trans hf.2.2.1, (pk_un (k := f_optCh) (x := 1) (by decide)).trans hf.2.2.2.1, pk_us (f := u2.1) (k := f_optCh) (x := 1), (pk_un (k := f_optCh) (x := 1) (by decide)).trans hf.2.2.2.2.2⟩ ty2'
    have b68 : ¬ isF w 20056 = 1 → ¬ isF w 22616 = 1 → ¬ isF w 18260 = 1 → mjY mjPP (mjQQ Y) (d + 4) 64 68 [some (.ref 0), some (.int x1), some (.int 0), some (.int 1), none] [] σ K := by
      intro n0 n1 n2
      refine mjZ_y rfl rfl 4 _ _ _ _ ty ?_
      refine (And.intro (Nat.le_of_ble_eq_true rfl) (And.intro rfl (And.intro (Nat.le_of_ble_eq_true rfl) (And.intro (Nat.le_of_ble_eq_true rfl) (mjY_mono ty (fun q_ u2 ty2 h_ => ?_) (w_is h ty hw e1 19540))))))
      obtain ⟨rfl, rfl⟩ := h_
      intro _
      refine mjZ_y rfl rfl 1 _ _ _ _ ty2 ?_
      refine And.intro (fun c => ?_) (fun c => ?_)
      · exact b86 n0 n1 n2 (isF_ne c)
      · refine mjZ_y rfl rfl 3 _ _ _ _ ty2 ?_
        refine (And.intro rfl (And.intro (fun b => ?_) (fun b => ?_)))
        · refine mjZ_y rfl rfl 8 _ _ _ _ ty2 ?_
          refine (And.intro (Nat.le_of_ble_eq_true rfl) (And.intro rfl (And.intro (Or.inr ⟨rfl, Or.inr rfl⟩) (fun ty2' => (And.intro (Nat.le_of_ble_eq_true rfl) ?_)))))
          exact bad f_optLt (by decide) (by unfold zoT; rw [if_neg n0]; rw [if_neg n1]; rw [if_neg n2]; rw [if_pos (isF_n c), if_neg (fun z => b (hf.2.2.2.1.trans z))]) ty2'
        · have b : f.2.2.2.1 = 0 := hf.2.2.2.1.symm.trans (Decidable.of_not_not b)
          refine mjZ_y rfl rfl 9 _ _ _ _ ty2 ?_
          refine (And.intro (Nat.le_of_ble_eq_true rfl) (And.intro rfl (And.intro (Or.inr ⟨rfl, Or.inr rfl⟩) (fun ty2' => (And.intro (Nat.le_of_ble_eq_true rfl) ?_)))))
          exact good f_optLt (f.1, f.2.1, f.2.2.1, 1, f.2.2.2.2.1, f.2.2.2.2.2) (by decide) (by unfold zoT; rw [if_neg n0]; rw [if_neg n1]; rw [if_neg n2]; rw [if_pos (isF_n c), if_pos b]) ⟨(pk_un (k := f_optLt) (x := 1) (by decide)).trans hf.1, (pk_un (k := f_optLt) (x := 1) (by decide)).trans hf.2.1, (pk_un (k := f_optLt) (x := 1) (by decide)).trans hf.2.2.1, pk_us (f := u2.1) (k := f_optLt) (x := 1), (pk_un (k := f_optLt) (x := 1) (by decide)).trans hf.2.2.2.2.1, (pk_un (k := f_optLt) (x := 1) (by decide)).trans hf.2.2.2.2.2⟩ ty2'
    have b50 : ¬ isF w 20056 = 1 → ¬ isF w 22616 = 1 → mjY mjPP (mjQQ Y) (d + 4) 64 50 [some (.ref 0), some (.int x1), some (.int 0), some (.int 1), none] [] σ K := by
      intro n0 n1
      refine mjZ_y rfl rfl 4 _ _ _ _ ty ?_
      refine (And.intro (Nat.le_of_ble_eq_true rfl) (And.intro rfl (And.intro (Nat.le_of_ble_eq_true rfl) (And.intro (Nat.le_of_ble_eq_true rfl) (mjY_mono ty (fun q_ u2 ty2 h_ => ?_) (w_is h ty hw e1 18260))))))
      obtain ⟨rfl, rfl⟩ := h_
      intro _
      refine mjZ_y rfl rfl 1 _ _ _ _ ty2 ?_
      refine And.intro (fun c => ?_) (fun c => ?_)
      · exact b68 n0 n1 (isF_ne c)
      · refine mjZ_y rfl rfl 3 _ _ _ _ ty2 ?_
        refine (And.intro rfl (And.intro (fun b => ?_) (fun b => ?_)))
        · refine mjZ_y rfl rfl 8 _ _ _ _ ty2 ?_
          refine (And.intro (Nat.le_of_ble_eq_true rfl) (And.intro rfl (And.intro (Or.inr ⟨rfl, Or.inr rfl⟩) (fun ty2' => (And.intro (Nat.le_of_ble_eq_true rfl) ?_)))))
          exact bad f_optGt (by decide) (by unfold zoT; rw [if_neg n0]; rw [if_neg n1]; rw [if_pos (isF_n c), if_neg (fun z => b (hf.2.2.1.trans z))]) ty2'
        · have b : f.2.2.1 = 0 := hf.2.2.1.symm.trans (Decidable.of_not_not b)
          refine mjZ_y rfl rfl 9 _ _ _ _ ty2 ?_
          refine (And.intro (Nat.le_of_ble_eq_true rfl) (And.intro rfl (And.intro (Or.inr ⟨rfl, Or.inr rfl⟩) (fun ty2' => (And.intro (Nat.le_of_ble_eq_true rfl) ?_)))))
          exact good f_optGt (f.1, f.2.1, 1, f.2.2.2.1, f.2.2.2.2.1, f.2.2.2.2.2) (by decide) (by unfold zoT; rw [if_neg n0]; rw [if_neg n1]; rw [if_pos (isF_n c), if_pos b]) ⟨(pk_un (k := f_optGt) (x := 1) (by decide)).trans hf.1, (pk_un (k := f_optGt) (x := 1) (by decide)).trans hf.2.1, pk_us (f := u2.1) (k := f_optGt) (x := 1), (pk_un (k := f_optGt) (x := 1) (by decide)).trans hf.2.2.2.1, (pk_un (k := f_optGt) (x := 1) (by decide)).trans hf.2.2.2.2.1, (pk_un (k := f_optGt) (x := 1) (by decide)).trans hf.2.2.2.2.2⟩ ty2'
    have b32 : ¬ isF w 20056 = 1 → mjY mjPP (mjQQ Y) (d + 4) 64 32 [some (.ref 0), some (.int x1), some (.int 0), some (.int 1), none] [] σ K := by
      intro n0
      refine mjZ_y rfl rfl 4 _ _ _ _ ty ?_
      refine (And.intro (Nat.le_of_ble_eq_true rfl) (And.intro rfl (And.intro (Nat.le_of_ble_eq_true rfl) (And.intro (Nat.le_of_ble_eq_true rfl) (mjY_mono ty (fun q_ u2 ty2 h_ => ?_) (w_is h ty hw e1 22616))))))
      obtain ⟨rfl, rfl⟩ := h_
      intro _
      refine mjZ_y rfl rfl 1 _ _ _ _ ty2 ?_
      refine And.intro (fun c => ?_) (fun c => ?_)
      · exact b50 n0 (isF_ne c)
      · refine mjZ_y rfl rfl 3 _ _ _ _ ty2 ?_
        refine (And.intro rfl (And.intro (fun b => ?_) (fun b => ?_)))
        · refine mjZ_y rfl rfl 8 _ _ _ _ ty2 ?_
          refine (And.intro (Nat.le_of_ble_eq_true rfl) (And.intro rfl (And.intro (Or.inr ⟨rfl, Or.inr rfl⟩) (fun ty2' => (And.intro (Nat.le_of_ble_eq_true rfl) ?_)))))
          exact bad f_optXx (by decide) (by unfold zoT; rw [if_neg n0]; rw [if_pos (isF_n c), if_neg (fun z => b (hf.2.1.trans z))]) ty2'
        · have b : f.2.1 = 0 := hf.2.1.symm.trans (Decidable.of_not_not b)
          refine mjZ_y rfl rfl 9 _ _ _ _ ty2 ?_
          refine (And.intro (Nat.le_of_ble_eq_true rfl) (And.intro rfl (And.intro (Or.inr ⟨rfl, Or.inr rfl⟩) (fun ty2' => (And.intro (Nat.le_of_ble_eq_true rfl) ?_)))))
          exact good f_optXx (f.1, 1, f.2.2.1, f.2.2.2.1, f.2.2.2.2.1, f.2.2.2.2.2) (by decide) (by unfold zoT; rw [if_neg n0]; rw [if_pos (isF_n c), if_pos b]) ⟨(pk_un (k := f_optXx) (x := 1) (by decide)).trans hf.1, pk_us (f := u2.1) (k := f_optXx) (x := 1), (pk_un (k := f_optXx) (x := 1) (by decide)).trans hf.2.2.1, (pk_un (k := f_optXx) (x := 1) (by decide)).trans hf.2.2.2.1, (pk_un (k := f_optXx) (x := 1) (by decide)).trans hf.2.2.2.2.1, (pk_un (k := f_optXx) (x := 1) (by decide)).trans hf.2.2.2.2.2⟩ ty2'
    have b14 : mjY mjPP (mjQQ Y) (d + 4) 64 14 [some (.ref 0), some (.int x1), some (.int 0), some (.int 1), none] [] σ K := by
      refine mjZ_y rfl rfl 4 _ _ _ _ ty ?_
      refine (And.intro (Nat.le_of_ble_eq_true rfl) (And.intro rfl (And.intro (Nat.le_of_ble_eq_true rfl) (And.intro (Nat.le_of_ble_eq_true rfl) (mjY_mono ty (fun q_ u2 ty2 h_ => ?_) (w_is h ty hw e1 20056))))))
      obtain ⟨rfl, rfl⟩ := h_
      intro _
      refine mjZ_y rfl rfl 1 _ _ _ _ ty2 ?_
      refine And.intro (fun c => ?_) (fun c => ?_)
      · exact b32  (isF_ne c)
      · refine mjZ_y rfl rfl 3 _ _ _ _ ty2 ?_
        refine (And.intro rfl (And.intro (fun b => ?_) (fun b => ?_)))
        · refine mjZ_y rfl rfl 8 _ _ _ _ ty2 ?_
          refine (And.intro (Nat.le_of_ble_eq_true rfl) (And.intro rfl (And.intro (Or.inr ⟨rfl, Or.inr rfl⟩) (fun ty2' => (And.intro (Nat.le_of_ble_eq_true rfl) ?_)))))
          exact bad f_optNx (by decide) (by unfold zoT; rw [if_pos (isF_n c), if_neg (fun z => b (hf.1.trans z))]) ty2'
        · have b : f.1 = 0 := hf.1.symm.trans (Decidable.of_not_not b)
          refine mjZ_y rfl rfl 9 _ _ _ _ ty2 ?_
          refine (And.intro (Nat.le_of_ble_eq_true rfl) (And.intro rfl (And.intro (Or.inr ⟨rfl, Or.inr rfl⟩) (fun ty2' => (And.intro (Nat.le_of_ble_eq_true rfl) ?_)))))
          exact good f_optNx (1, f.2.1, f.2.2.1, f.2.2.2.1, f.2.2.2.2.1, f.2.2.2.2.2) (by decide) (by unfold zoT; rw [if_pos (isF_n c), if_pos b]) ⟨pk_us (f := u2.1) (k := f_optNx) (x := 1), (pk_un (k := f_optNx) (x := 1) (by decide)).trans hf.2.1, (pk_un (k := f_optNx) (x := 1) (by decide)).trans hf.2.2.1, (pk_un (k := f_optNx) (x := 1) (by decide)).trans hf.2.2.2.1, (pk_un (k := f_optNx) (x := 1) (by decide)).trans hf.2.2.2.2.1, (pk_un (k := f_optNx) (x := 1) (by decide)).trans hf.2.2.2.2.2⟩ ty2'
    refine mjZ_y rfl rfl 4 _ _ _ _ ty ?_
    refine (And.intro (Nat.le_of_ble_eq_true rfl) (And.intro (Nat.le_of_ble_eq_true rfl) ?_))
    exact b14
def zoC (f : F6) (r : List (List Int32)) : Prop := r.length < 2 ∨ r.length % 2 = 1 ∨ (¬ f.2.2.2.2.2 = 0 ∧ 2 < r.length) ∨ (¬ f.1 = 0 ∧ (¬ f.2.1 = 0 ∨ ¬ f.2.2.1 = 0 ∨ ¬ f.2.2.2.1 = 0)) ∨ (¬ f.2.2.1 = 0 ∧ ¬ f.2.2.2.1 = 0)
def zOb : List (List Int32) → Bool
  | s :: _ :: r => (intF s).isSome && zOb r
  | [s] => (intF s).isSome
  | [] => true
theorem zOb_ok : ∀ (n : Nat) (r : List (List Int32)), r.length ≤ n → r.length % 2 = 0 → zOb r = true → zOK r := by
  intro n
  induction n with
  | zero => intro r hr _ _; rw [List.length_eq_zero_iff.mp (Nat.le_zero.mp hr)]; trivial
  | succ n ih =>
    intro r hr he hb
    match r, hr, he, hb with
    | [], _, _, _ => trivial
    | [s], _, he, _ => exact absurd he (by show ¬ 1 % 2 = 0; decide)
    | s :: t :: r, hr, he, hb =>
      have hb : ((intF s).isSome && zOb r) = true := hb
      rw [Bool.and_eq_true] at hb
      have hr : r.length + 2 ≤ n + 1 := hr
      have he : (r.length + 2) % 2 = 0 := he
      exact ⟨Option.isSome_iff_exists.mp hb.1, ih r (by omega) (by omega) hb.2⟩
def zoD (f : F6) (r : List (List Int32)) : Decidable (zoC f r) := by unfold zoC; exact inferInstance
def zoE (f : F6) (r : List (List Int32)) : Option (F6 × List (List Int32)) := if @decide (zoC f r) (zoD f r) = true then none else if zOb r = true then some (f, r) else none
def zoR (ws : List (List Int32)) : Option (F6 × List (List Int32)) := (zoF (ws.drop 2) (0, 0, 0, 0, 0, 0)).bind (fun q => zoE q.1 q.2)
set_option maxRecDepth 100000 in
theorem c_oz_int (K : mjK) {ws : List (List Int32)} {ks : List KR} {l : List Int32} (x1 x2 x3 : Int32) : ∀ (n b : Nat) (σ : mjS) (x4 : Int32), b + 2 * n = ws.length → x4 = nI b → mjTY σ → Wd σ ws ks l →
    (∀ u, Fr ozFs oH σ u → Wd u ws ks l → (zOb (ws.drop b) = true → Fr [f_num] [] σ u) → K (some (.int (bI (zOb (ws.drop b))))) u) →
    mjY mjPP (mjQQ Y) (d + 4) 64 175 [some (.ref 0), some (.int x1), some (.int x2), some (.int x3), some (.int x4)] [] σ K := by
  intro n
  induction n with
  | zero =>
    intro b σ x4 hb e4 ty h hK
    have h1024 := h.2.1.2.1
    rw [List.drop_of_length_le (by omega)] at hK
    refine mjZ_y rfl rfl 4 _ _ _ _ ty ?_
    refine (And.intro rfl (And.intro (fun q => ?_) (fun q => ?_)))
    · refine mjZ_y rfl rfl 2 _ _ _ _ ty ?_
      refine And.intro rfl (And.intro (Or.inr ⟨rfl, Or.inr rfl⟩) ?_)
      exact hK σ Fr.rf h (fun _ => Fr.rf)
    · exact absurd (show σ.1 f_words ≤ x4 by rw [h.2.1.1, e4]; exact nI_le (by omega) (by omega)) q
  | succ n ih =>
    intro b σ x4 hb e4 ty h hK
    have h1024 := h.2.1.2.1
    obtain ⟨s, hs, ed⟩ := drop1 (ws := ws) (a := b) (m := ws.length - b - 1) (by omega)
    obtain ⟨t, ht, ed2⟩ := drop1 (ws := ws) (a := b + 1) (m := ws.length - b - 2) (by omega)
    rw [ed, ed2] at hK
    have eb : zOb (s :: t :: ws.drop (b + 1 + 1)) = ((intF s).isSome && zOb (ws.drop (b + 2))) := rfl
    rw [eb] at hK
    refine mjZ_y rfl rfl 4 _ _ _ _ ty ?_
    refine (And.intro rfl (And.intro (fun q => ?_) (fun q => ?_)))
    · exact absurd (show σ.1 f_words ≤ x4 from q) (by rw [h.2.1.1, e4]; exact nI_ge (by omega) (by omega))
    · refine mjZ_y rfl rfl 3 _ _ _ _ ty ?_
      refine (And.intro (Nat.le_of_ble_eq_true rfl) (And.intro rfl (And.intro (Nat.le_of_ble_eq_true rfl) (And.intro (Nat.le_of_ble_eq_true rfl) (mjY_mono ty (fun q_ u2 ty2 h_ => ?_) (w_integer h ty hs e4))))))
      obtain ⟨h2, f2, hz⟩ := h_
      intro _
      rcases hz with ⟨z, hz, rfl, -⟩ | ⟨hz, rfl⟩
      · rw [hz] at hK
        refine mjZ_y rfl rfl 1 _ _ _ _ ty2 ?_
        refine And.intro (fun c => ?_) (fun c => ?_)
        · refine mjZ_y rfl rfl 2 _ _ _ _ ty2 ?_
          exact ih (b + 2) u2 _ (by omega) (by rw [e4]; exact nI_add b 2) ty2 h2 (fun u fu hu hq => hK u ((f2.up (by decide) (by decide)).tr fu) hu (fun y => f2.tr (hq y)))
        · exact absurd (show ¬ (1 : Int32) = 0 by decide) c
      · rw [hz] at hK
        refine mjZ_y rfl rfl 1 _ _ _ _ ty2 ?_
        refine And.intro (fun c => ?_) (fun c => ?_)
        · exact absurd rfl c
        · refine mjZ_y rfl rfl 2 _ _ _ _ ty2 ?_
          refine (And.intro (Nat.le_of_ble_eq_true rfl) (And.intro rfl (And.intro (Nat.le_of_ble_eq_true rfl) (And.intro (Nat.le_of_ble_eq_true rfl) (mjY_mono ty2 (fun q_ u3 ty3 h_ => ?_) (w_noInteger h2 ty2))))))
          obtain ⟨rfl, h3, f3⟩ := h_
          intro _
          refine mjZ_y rfl rfl 1 _ _ _ _ ty3 ?_
          refine And.intro rfl (And.intro (Or.inr ⟨rfl, Or.inl rfl⟩) ?_)
          exact hK u3 ((f2.up (by decide) (by decide)).tr f3.oz) h3 (fun y => by cases y)
set_option maxRecDepth 100000 in
theorem c_optionsZadd {σ : mjS} {ws : List (List Int32)} {ks : List KR} {l : List Int32} (h : Wd σ ws ks l) (ty : mjTY σ) (hw : 2 ≤ ws.length) (hf : ozI σ (0, 0, 0, 0, 0, 0)) : mjY mjPP (mjQQ Y) (d + 4) 64 0 (mjL0 5 [.ref 0]) [] σ (fun r u => r = some (.int (bI (zoR ws).isSome)) ∧ Fr ozFs oH σ u ∧ Wd u ws ks l ∧ ∀ q, zoR ws = some q → ozI u q.1 ∧ u.1 f_pairs = nI (ws.length - q.2.length) ∧ q.2 = ws.drop (ws.length - q.2.length) ∧ q.2.length ≤ ws.length ∧ ¬ zoC q.1 q.2 ∧ zOb q.2 = true) := by
  have h1024 := h.2.1.2.1
  refine mjZ_y rfl rfl 4 _ _ _ _ ty ?_
  refine (And.intro (Nat.le_of_ble_eq_true rfl) (And.intro (Nat.le_of_ble_eq_true rfl) ?_))
  refine c_oz_loop _ (ws.length - 2) 2 σ (0, 0, 0, 0, 0, 0) _ _ (by omega) hw rfl ty h hf (fun u f r x1 x2 l3 z z1 z2 z3 tu fu hu hfu => ?_) (fun u z fu hu => ?_)
  · have eR : zoR ws = zoE f r := by unfold zoR; rw [z]; rfl
    rw [eR]
    have ex3 : u.1 f_words - x1 = nI r.length := by
      rw [hu.2.1.1, z3, show nI ws.length - nI (ws.length - r.length) = nI (ws.length - (ws.length - r.length)) from pk_sub (by omega)]; congr 1; omega
    refine mjZ_y rfl rfl 8 _ _ _ _ tu ?_
    refine (And.intro rfl (And.intro (Or.inl rfl) (fun tu' => (And.intro rfl (And.intro (Nat.le_of_ble_eq_true rfl) ?_)))))
    have go : ∀ (u2 : mjS) (x3 : Int32), mjTY u2 → u2 = (upd u.1 f_pairs x1, u.2) → x3 = nI r.length → mjY mjPP (mjQQ Y) (d + 4) 64 138 [some (.ref 0), some (.int x1), some (.int x2), some (.int x3), none] [] u2 (fun r_ u => r_ = some (.int (bI (zoE f r).isSome)) ∧ Fr ozFs oH σ u ∧ Wd u ws ks l ∧ ∀ q, zoE f r = some q → ozI u q.1 ∧ u.1 f_pairs = nI (ws.length - q.2.length) ∧ q.2 = ws.drop (ws.length - q.2.length) ∧ q.2.length ≤ ws.length ∧ ¬ zoC q.1 q.2 ∧ zOb q.2 = true) := by
      intro u2 x3 tu2 eu2 ex3
      have f2 : Fr [f_pairs] [] u u2 := by rw [eu2]; exact Fr.i (by decide)
      have h2 := hu.fr f2 (by decide) (by decide)
      have f2z : Fr ozFs oH σ u2 := fu.tr (f2.up (by decide) (by decide))
      have ep : u2.1 f_pairs = nI (ws.length - r.length) := by rw [eu2, ← z3]; exact pk_us (f := u.1) (k := f_pairs) (x := x1)
      have hf2 : ozI u2 f := ⟨(f2.1 _ (by decide)).trans hfu.1, (f2.1 _ (by decide)).trans hfu.2.1, (f2.1 _ (by decide)).trans hfu.2.2.1, (f2.1 _ (by decide)).trans hfu.2.2.2.1, (f2.1 _ (by decide)).trans hfu.2.2.2.2.1, (f2.1 _ (by decide)).trans hfu.2.2.2.2.2⟩
      have bad : zoC f r → mjY mjPP (mjQQ Y) (d + 4) 64 170 [some (.ref 0), some (.int x1), some (.int x2), some (.int x3), none] [] u2 (fun r_ u => r_ = some (.int (bI (zoE f r).isSome)) ∧ Fr ozFs oH σ u ∧ Wd u ws ks l ∧ ∀ q, zoE f r = some q → ozI u q.1 ∧ u.1 f_pairs = nI (ws.length - q.2.length) ∧ q.2 = ws.drop (ws.length - q.2.length) ∧ q.2.length ≤ ws.length ∧ ¬ zoC q.1 q.2 ∧ zOb q.2 = true) := by
        intro y
        have e : zoE f r = none := if_pos (@decide_eq_true _ (zoD f r) y)
        rw [e]
        refine mjZ_y rfl rfl 2 _ _ _ _ tu2 ?_
        refine (And.intro (Nat.le_of_ble_eq_true rfl) (And.intro rfl (And.intro (Nat.le_of_ble_eq_true rfl) (And.intro (Nat.le_of_ble_eq_true rfl) (mjY_mono tu2 (fun q_ u3 ty3 h_ => ?_) (w_syntax h2 tu2))))))
        obtain ⟨rfl, h3, f3⟩ := h_
        intro _
        refine mjZ_y rfl rfl 1 _ _ _ _ ty3 ?_
        refine And.intro rfl (And.intro (Or.inr ⟨rfl, Or.inl rfl⟩) ?_)
        exact ⟨rfl, f2z.tr f3.oz, h3, fun q y => by cases y⟩
      have fin : ¬ zoC f r → mjY mjPP (mjQQ Y) (d + 4) 64 173 [some (.ref 0), some (.int x1), some (.int x2), some (.int x3), none] [] u2 (fun r_ u => r_ = some (.int (bI (zoE f r).isSome)) ∧ Fr ozFs oH σ u ∧ Wd u ws ks l ∧ ∀ q, zoE f r = some q → ozI u q.1 ∧ u.1 f_pairs = nI (ws.length - q.2.length) ∧ q.2 = ws.drop (ws.length - q.2.length) ∧ q.2.length ≤ ws.length ∧ ¬ zoC q.1 q.2 ∧ zOb q.2 = true) := by
        intro y
        have e : zoE f r = if zOb r = true then some (f, r) else none := if_neg (fun z => by rw [@decide_eq_false _ (zoD f r) y] at z; cases z)
        have he : r.length % 2 = 0 := by
          cases Nat.mod_two_eq_zero_or_one r.length with
          | inl a => exact a
          | inr a => exact absurd (Or.inr (Or.inl a)) y
        refine mjZ_y rfl rfl 2 _ _ _ _ tu2 ?_
        refine (And.intro (Nat.le_of_ble_eq_true rfl) ?_)
        refine c_oz_int _ x1 x2 x3 (r.length / 2) (ws.length - r.length) u2 x1 (by omega) z3 tu2 h2 (fun u5 f5 h5 q5 => ?_)
        rw [← z1] at q5 ⊢
        rw [e]
        cases hb : zOb r with
        | false => exact ⟨rfl, f2z.tr f5, h5, fun q y => by cases y⟩
        | true =>
          refine ⟨rfl, f2z.tr f5, h5, fun q yq => ?_⟩
          have eq : (f, r) = q := Option.some.inj yq
          have g5 := q5 hb
          rw [← eq]
          exact ⟨⟨(g5.1 _ (by decide)).trans hf2.1, (g5.1 _ (by decide)).trans hf2.2.1, (g5.1 _ (by decide)).trans hf2.2.2.1, (g5.1 _ (by decide)).trans hf2.2.2.2.1, (g5.1 _ (by decide)).trans hf2.2.2.2.2.1, (g5.1 _ (by decide)).trans hf2.2.2.2.2.2⟩, (g5.1 _ (by decide)).trans ep, z1, z2, y, hb⟩
      have n0 : ∀ {k : Nat} {v : Int32}, u2.1 k = v → ((u2.1 k = 0) ↔ v = 0) := fun e => by rw [e]
      -- gt and lt
      have s164 : ¬ (r.length < 2) → ¬ (r.length % 2 = 1) → ¬ (¬ f.2.2.2.2.2 = 0 ∧ 2 < r.length) → ¬ (¬ f.1 = 0 ∧ (¬ f.2.1 = 0 ∨ ¬ f.2.2.1 = 0 ∨ ¬ f.2.2.2.1 = 0)) → mjY mjPP (mjQQ Y) (d + 4) 64 164 [some (.ref 0), some (.int x1), some (.int x2), some (.int x3), none] [] u2 (fun r_ u => r_ = some (.int (bI (zoE f r).isSome)) ∧ Fr ozFs oH σ u ∧ Wd u ws ks l ∧ ∀ q, zoE f r = some q → ozI u q.1 ∧ u.1 f_pairs = nI (ws.length - q.2.length) ∧ q.2 = ws.drop (ws.length - q.2.length) ∧ q.2.length ≤ ws.length ∧ ¬ zoC q.1 q.2 ∧ zOb q.2 = true) := by
        intro y1 y2 y3 y4
        have no : ¬ (¬ f.2.2.1 = 0 ∧ ¬ f.2.2.2.1 = 0) → ¬ zoC f r := fun y5 y => y.elim y1 (fun y => y.elim y2 (fun y => y.elim y3 (fun y => y.elim y4 y5)))
        refine mjZ_y rfl rfl 3 _ _ _ _ tu2 ?_
        refine (And.intro rfl (And.intro (fun c => ?_) (fun c => ?_)))
        · exact fin (no (fun y => y.1 ((n0 hf2.2.2.1).mp c)))
        · refine mjZ_y rfl rfl 3 _ _ _ _ tu2 ?_
          refine (And.intro rfl (And.intro (fun b => ?_) (fun b => ?_)))
          · exact fin (no (fun y => y.2 ((n0 hf2.2.2.2.1).mp b)))
          · exact bad (Or.inr (Or.inr (Or.inr (Or.inr ⟨fun y => c ((n0 hf2.2.2.1).mpr y), fun y => b ((n0 hf2.2.2.2.1).mpr y)⟩))))
      have s152 : ¬ (r.length < 2) → ¬ (r.length % 2 = 1) → ¬ (¬ f.2.2.2.2.2 = 0 ∧ 2 < r.length) → mjY mjPP (mjQQ Y) (d + 4) 64 152 [some (.ref 0), some (.int x1), some (.int x2), some (.int x3), none] [] u2 (fun r_ u => r_ = some (.int (bI (zoE f r).isSome)) ∧ Fr ozFs oH σ u ∧ Wd u ws ks l ∧ ∀ q, zoE f r = some q → ozI u q.1 ∧ u.1 f_pairs = nI (ws.length - q.2.length) ∧ q.2 = ws.drop (ws.length - q.2.length) ∧ q.2.length ≤ ws.length ∧ ¬ zoC q.1 q.2 ∧ zOb q.2 = true) := by
        intro y1 y2 y3
        refine mjZ_y rfl rfl 3 _ _ _ _ tu2 ?_
        refine (And.intro rfl (And.intro (fun c => ?_) (fun c => ?_)))
        · exact s164 y1 y2 y3 (fun y => y.1 ((n0 hf2.1).mp c))
        · have c : ¬ f.1 = 0 := fun y => c ((n0 hf2.1).mpr y)
          refine mjZ_y rfl rfl 3 _ _ _ _ tu2 ?_
          refine (And.intro rfl (And.intro (fun b => ?_) (fun b => ?_)))
          · exact bad (Or.inr (Or.inr (Or.inr (Or.inl ⟨c, Or.inl (fun y => b ((n0 hf2.2.1).mpr y))⟩))))
          · refine mjZ_y rfl rfl 3 _ _ _ _ tu2 ?_
            refine (And.intro rfl (And.intro (fun k => ?_) (fun k => ?_)))
            · exact bad (Or.inr (Or.inr (Or.inr (Or.inl ⟨c, Or.inr (Or.inl (fun y => k ((n0 hf2.2.2.1).mpr y)))⟩))))
            · refine mjZ_y rfl rfl 3 _ _ _ _ tu2 ?_
              refine (And.intro rfl (And.intro (fun g => ?_) (fun g => ?_)))
              · exact bad (Or.inr (Or.inr (Or.inr (Or.inl ⟨c, Or.inr (Or.inr (fun y => g ((n0 hf2.2.2.2.1).mpr y)))⟩))))
              · refine s164 y1 y2 y3 (fun y => ?_)
                rcases y.2 with y | y | y
                · exact y ((n0 hf2.2.1).mp (Decidable.of_not_not b))
                · exact y ((n0 hf2.2.2.1).mp (Decidable.of_not_not k))
                · exact y ((n0 hf2.2.2.2.1).mp (Decidable.of_not_not g))
      refine mjZ_y rfl rfl 3 _ _ _ _ tu2 ?_
      refine And.intro (fun c => ?_) (fun c => ?_)
      · refine bad (Or.inl (Nat.lt_of_not_le (fun y => ?_)))
        exact Int32.not_lt.mpr (show nI 2 ≤ x3 by rw [ex3]; exact nI_le y (by omega)) c
      · have c : ¬ r.length < 2 := fun y => c (show x3 < nI 2 by rw [ex3]; exact Int32.not_le.mp (nI_ge (by omega) (by omega)))
        have er : x3 - x3 / Int32.ofInt 2 * Int32.ofInt 2 = nI (r.length % 2) := by rw [ex3]; exact pk_rem (d := 2) (by omega) (by decide) (by decide)
        refine mjZ_y rfl rfl 5 _ _ _ _ tu2 ?_
        refine (And.intro (by decide) (And.intro (fun b => ?_) (fun b => ?_)))
        · have b : nI (r.length % 2) = nI 1 := er.symm.trans b
          exact bad (Or.inr (Or.inl ((nI_eq (by omega) (by decide)).mp b)))
        · have b : ¬ r.length % 2 = 1 := fun y => b (er.trans (by rw [y]; rfl))
          refine mjZ_y rfl rfl 3 _ _ _ _ tu2 ?_
          refine (And.intro rfl (And.intro (fun k => ?_) (fun k => ?_)))
          · exact s152 c b (fun y => y.1 ((n0 hf2.2.2.2.2.2).mp k))
          · refine mjZ_y rfl rfl 3 _ _ _ _ tu2 ?_
            refine And.intro (fun g => ?_) (fun g => ?_)
            · refine bad (Or.inr (Or.inr (Or.inl ⟨fun y => k ((n0 hf2.2.2.2.2.2).mpr y), Nat.lt_of_not_le (fun y => ?_)⟩)))
              exact Int32.not_lt.mpr (show x3 ≤ nI 2 by rw [ex3]; exact nI_le y (by omega)) g
            · exact s152 c b (fun y => g (show nI 2 < x3 by rw [ex3]; exact Int32.not_le.mp (nI_ge y.2 (by omega))))
    exact go _ _ tu' rfl ex3
  · have eR : zoR ws = none := by unfold zoR; rw [z]; rfl
    rw [eR]
    exact ⟨rfl, fu, hu, fun q y => by cases y⟩
end OZADD