/-! What a change notes in the log: note. -/
def njF (b : Nat) : List (Nat × Nat) := (0, 14) :: jnF b
section KNOTE3
variable {Y : Nat → MethodName × ByteArray} {d : Nat} {σ u : kS} {B ws nm nm' : List (List Int32)} {ks ks' : List KC}
theorem nj_tr (ts : kTY σ) {b : Nat} (hb : b ∈ [5, 7]) {u v : kS} (a : Ch false (njF b) [(b, 1)] σ u) (c : Ch false (jnF b) [(b, 1)] u v) : Ch false (njF b) [(b, 1)] σ v := Ch.tr ts (fun q hq => by rw [List.mem_singleton.mp hq]; exact ow_b (J_ok b hb).1) a (c.up (fun z => z) (fun p hp => List.mem_cons_of_mem _ hp) (fun p hp => hp))
/-- the form a change has -/
def NTF (σ : kS) (ws : List (List Int32)) (j : Nat) (w1 wv : List Int32) : Prop := CMD σ j ∧ 1 ≤ ws.length ∧ ((σ.1 53 13 = 0) ∨ (σ.1 53 13 = 1 ∧ ws[1]? = some w1 ∧ ∃ n, σ.1 53 14 = nI n ∧ ws[n]? = some wv) ∨ (σ.1 53 13 = 2 ∧ ws[1]? = some w1) ∨ (σ.1 53 13 = 3 ∧ ws[1]? = some w1))
theorem kx_note17 (ty : kTY σ) (g : KO B σ ws nm ks) {b : Nat} (hb : b ∈ [5, 7]) {l : List Int32} (jn : JN b σ l) (h10 : σ.2.2.1 0 10 = some b) {j : Nat} {w1 wv : List Int32} (hf : NTF σ ws j w1 wv) (hlen : (l ++ encR (ntC (σ.1 53 13) (σ.1 53 15) (σ.2.1 53 16) j ws w1 wv)).length ≤ 210000) :
    kjY kPP (kQQ Y) (d + 8) 29 17 [some (.ref 0), none] [] σ (jP B b σ ws nm ks (l ++ encR (ntC (σ.1 53 13) (σ.1 53 15) (σ.2.1 53 16) j ws w1 wv))) := by
  obtain ⟨b1, -, b3, b4, -⟩ := J_ok b hb
  have f10 : ∀ u, Ch false (jnF b) [(b, 1)] σ u → u.2.2.1 0 10 = some b := fun u hu => by rw [(J_fld ty hb hu (h := 0) (x := 10) (c := 9) (by decide) rfl (by decide) (fun z => b4 z.symm)).2.2]; exact h10
  have f53 : ∀ u, Ch false (jnF b) [(b, 1)] σ u → ∀ x, u.1 53 x = σ.1 53 x ∧ u.2.1 53 x = σ.2.1 53 x ∧ u.2.2.1 53 x = σ.2.2.1 53 x := fun u hu x => J_fld ty hb hu (h := 53) (x := x) (c := 3) (by decide) rfl (by decide) (fun z => b3 z.symm)
  have kb := ob_k ty b1
  obtain ⟨⟨hcm, hj⟩, hl1, hf⟩ := hf
  obtain ⟨-, -, -, -, ⟨h4, h1024⟩, -⟩ := g.2.1
  -- a head and a text
  have hdx : ∀ (N : Nat) (q : Req), q.length = N → N ≤ 1024 → (l ++ encR q).length ≤ 210000 → l.length + (hdN N).length + (wordsL q).length ≤ 210000 ∧ l ++ encR q = l ++ hdN N ++ wordsL q := fun N q hq hN hll => by
    have e : l ++ encR q = l ++ hdN N ++ wordsL q := by rw [encR_hd, hq, List.append_assoc]
    refine ⟨?_, e⟩
    rw [e, List.length_append, List.length_append] at hll; exact hll
  have hH : ∀ (N : Nat) (xn : Int32), xn = nI N → N ≤ 1024 → l.length + (hdN N).length ≤ 210000 → kjY kPP (kQQ Y) (d + 7) 60 0 (mjL0 2 [.ref b, .int xn]) [] σ (jP B b σ ws nm ks (l ++ hdN N)) := fun N xn exn hN hl0 => by
    refine kjY_mono ty (fun r z _ _ h => g.jr ty hb jn h hl0) (k_rowHead (d := d + 2) ty g.1.1.1 b1 jn.1 xn exn (by omega) (opQ_j hb g.1.1.2 l ?_))
    have : (hdN N).length = (dec (lN N)).length + 3 := by unfold hdN; rw [List.length_append, List.length_cons]; rfl
    omega
  rcases hf with hf | ⟨hf, h1, n, hn, h2⟩ | ⟨hf, h1⟩ | ⟨hf, h1⟩
  · -- as it is
    have hq : ntC (σ.1 53 13) (σ.1 53 15) (σ.2.1 53 16) j ws w1 wv = tb (txC j) :: ws.drop 1 := by
      unfold ntC; rw [hf, if_neg (by decide), if_neg (by decide), if_neg (by decide)]
    rw [hq] at hlen ⊢
    obtain ⟨hl2, eL⟩ := hdx ws.length (tb (txC j) :: ws.drop 1) (by rw [List.length_cons, List.length_drop]; omega) h1024 hlen
    rw [wdsL_cons, List.length_append] at hl2
    have go : ∀ v : Int32, v = 0 → kjY kPP (kQQ Y) (d + 8) 29 (kSg 2 v) [some (.ref 0), none] [] σ (jP B b σ ws nm ks (l ++ encR (tb (txC j) :: ws.drop 1))) := by
      intro v ev
      rw [ev, show kSg 2 0 = 60 by decide]
      refine kjZ_y rfl rfl 6 _ _ _ _ ty ?_
      refine (And.intro (ty.k (by decide) rfl) (Exists.intro _ (And.intro h10 (And.intro (ty.k (by decide) rfl) (And.intro (ty.k (by decide) rfl) (And.intro (Nat.le_of_ble_eq_true rfl) (And.intro (Or.inl ⟨(Nat.le_of_ble_eq_true rfl), (by assumption)⟩) (And.intro (Nat.le_of_ble_eq_true rfl) (And.intro (Nat.le_of_ble_eq_true rfl) (kjY_mono ty (fun q_ u1 ty1 xu1 h_ => ?_) (hH ws.length _ h4 h1024 (by omega))))))))))))
      obtain ⟨rfl, g1, j1, c1⟩ := h_
      intro _ _
      have i10 := f10 u1 c1
      have i8 : u1.2.2.1 53 8 = some (1000000 + j) := by rw [(f53 u1 c1 8).2.2]; exact hcm
      have kb1 := ob_k ty1 b1
      have kcm : kCm (1000000 + j) := ⟨j, hj, rfl⟩
      have ho : kOf 1005 (1000000 + j) (.ref (2000000 + txC j)) := Or.inl ⟨j, hj, rfl, Or.inr (Or.inr (Or.inr (Or.inr ⟨rfl, rfl⟩)))⟩
      have kt : kSt (2000000 + txC j) := ⟨txC j, txC_lt j hj, rfl⟩
      refine kjZ_y rfl rfl 11 _ _ _ _ ty1 ?_
      refine (And.intro (ty1.k (by decide) rfl) (Exists.intro _ (And.intro i10 (And.intro (ty1.k (by decide) rfl) (And.intro (ty1.k (by decide) rfl) (Exists.intro _ (And.intro i8 (And.intro (ty1.k (by decide) rfl) (And.intro (ty1.k (by decide) rfl) (Exists.intro _ (And.intro i8 (Exists.intro _ (And.intro ho (And.intro (Nat.le_of_ble_eq_true rfl) (And.intro (Or.inl ⟨(Nat.le_of_ble_eq_true rfl), (by assumption)⟩) (And.intro (Nat.le_of_ble_eq_true rfl) (And.intro (Nat.le_of_ble_eq_true rfl) (kjY_mono ty1 (fun q_ u2 ty2 xu2 h_ => ?_) (j_text (d := d + 1) ty1 g1 hb j1 (txC_lt j hj) (by rw [List.length_append]; omega))))))))))))))))))))
      obtain ⟨rfl, g2, j2, c2⟩ := h_
      intro _ _
      refine kjZ_y rfl rfl 2 _ _ _ _ ty2 ?_
      refine (And.intro (Nat.le_of_ble_eq_true rfl) ?_)
      have c12 := J_tr ty hb c1 c2
      refine k_note_l (σ := σ) (d := d + 2) hb ty _ (L := l ++ encR (tb (txC j) :: ws.drop 1)) (fun z x1 tz gz jz cz => ?_) hlen (ws.length - 1) 1 _ _ u2 (by omega) rfl ty2 g2 h10 j2 c12 ?_
      · refine kjZ_y rfl rfl 1 _ _ _ _ tz ?_
        refine And.intro rfl (And.intro rfl ?_)
        exact ⟨rfl, gz, jz, cz⟩
      · rw [eL, wdsL_cons]; simp only [List.append_assoc]
    refine kjZ_y rfl rfl 4 _ _ _ _ ty ?_
    refine (And.intro (ty.k (by decide) rfl) (And.intro (ty.k (by decide) rfl) ?_))
    exact go _ hf
  · have hq : ntC (σ.1 53 13) (σ.1 53 15) (σ.2.1 53 16) j ws w1 wv = nsC (σ.1 53 15) (σ.2.1 53 16) w1 wv := by unfold ntC; rw [hf, if_pos rfl]
    rw [hq] at hlen ⊢
    have go : ∀ v : Int32, v = 1 → kjY kPP (kQQ Y) (d + 8) 29 (kSg 2 v) [some (.ref 0), none] [] σ (jP B b σ ws nm ks (l ++ encR (nsC (σ.1 53 15) (σ.2.1 53 16) w1 wv))) := by
      intro v ev
      rw [ev, show kSg 2 1 = 21 by decide]
      refine kjZ_y rfl rfl 2 _ _ _ _ ty ?_
      refine (And.intro (Nat.le_of_ble_eq_true rfl) (And.intro (Or.inl ⟨(Nat.le_of_ble_eq_true rfl), (ty.k (by decide) rfl)⟩) (And.intro (Nat.le_of_ble_eq_true rfl) (And.intro (Nat.le_of_ble_eq_true rfl) (kjY_mono ty (fun q_ u1 ty1 xu1 h_ => ?_) (kx_noteSet (d := d) ty g hb jn h10 h1 hn h2 hlen))))))
      have q1 := h_
      intro _ _
      obtain ⟨rfl, -⟩ := id q1
      refine kjZ_y rfl rfl 2 _ _ _ _ ty1 ?_
      refine And.intro rfl (And.intro rfl ?_)
      exact q1
    refine kjZ_y rfl rfl 4 _ _ _ _ ty ?_
    refine (And.intro (ty.k (by decide) rfl) (And.intro (ty.k (by decide) rfl) ?_))
    exact go _ hf
  · have hq : ntC (σ.1 53 13) (σ.1 53 15) (σ.2.1 53 16) j ws w1 wv = [tb 6, w1, dec (σ.2.1 53 16)] := by unfold ntC; rw [hf, if_neg (by decide), if_pos rfl]
    rw [hq] at hlen ⊢
    obtain ⟨hl2, eL⟩ := hdx 3 [tb 6, w1, dec (σ.2.1 53 16)] rfl (by decide) hlen
    have eT : wordsL [tb 6, w1, dec (σ.2.1 53 16)] = wordL (tb 6) ++ (wordL w1 ++ wordL (dec (σ.2.1 53 16))) := by rw [wdsL_cons, wdsL_cons, wdsL_cons]; show _ ++ (_ ++ (_ ++ [])) = _; rw [List.append_nil]
    rw [eT, List.length_append, List.length_append] at hl2
    have go : ∀ v : Int32, v = 2 → kjY kPP (kQQ Y) (d + 8) 29 (kSg 2 v) [some (.ref 0), none] [] σ (jP B b σ ws nm ks (l ++ encR [tb 6, w1, dec (σ.2.1 53 16)])) := by
      intro v ev
      rw [ev, show kSg 2 2 = 24 by decide]
      refine kjZ_y rfl rfl 4 _ _ _ _ ty ?_
      refine (And.intro (ty.k (by decide) rfl) (Exists.intro _ (And.intro h10 (And.intro (Nat.le_of_ble_eq_true rfl) (And.intro (Or.inl ⟨(Nat.le_of_ble_eq_true rfl), (by assumption)⟩) (And.intro (Nat.le_of_ble_eq_true rfl) (And.intro (Nat.le_of_ble_eq_true rfl) (kjY_mono ty (fun q_ u1 ty1 xu1 h_ => ?_) (hH 3 _ rfl (by decide) (by omega))))))))))
      obtain ⟨rfl, g1, j1, c1⟩ := h_
      intro _ _
      have i10 := f10 u1 c1
      have kb1 := ob_k ty1 b1
      refine kjZ_y rfl rfl 4 _ _ _ _ ty1 ?_
      refine (And.intro (ty1.k (by decide) rfl) (Exists.intro _ (And.intro i10 (And.intro rfl (And.intro (Nat.le_of_ble_eq_true rfl) (And.intro (Or.inl ⟨(Nat.le_of_ble_eq_true rfl), (by assumption)⟩) (And.intro (Nat.le_of_ble_eq_true rfl) (And.intro (Nat.le_of_ble_eq_true rfl) (kjY_mono ty1 (fun q_ u2 ty2 xu2 h_ => ?_) (j_text (d := d + 1) ty1 g1 hb j1 (i := 6) (by decide) (by rw [List.length_append]; omega)))))))))))
      obtain ⟨rfl, g2, j2, c2⟩ := h_
      intro _ _
      have c12 := J_tr ty hb c1 c2
      have i102 := f10 u2 c12
      have kb2 := ob_k ty2 b1
      refine kjZ_y rfl rfl 6 _ _ _ _ ty2 ?_
      refine (And.intro (ty2.k (by decide) rfl) (And.intro (ty2.k (by decide) rfl) (Exists.intro _ (And.intro i102 (And.intro (Nat.le_of_ble_eq_true rfl) (And.intro (Or.inl ⟨(Nat.le_of_ble_eq_true rfl), (ty2.k (by decide) rfl)⟩) (And.intro (Nat.le_of_ble_eq_true rfl) (And.intro (Nat.le_of_ble_eq_true rfl) (kjY_mono ty2 (fun q_ u3 ty3 xu3 h_ => ?_) (j_arg (d := d + 2) ty2 g2 hb j2 h1 _ rfl (by rw [List.length_append, List.length_append]; omega)))))))))))
      obtain ⟨rfl, g3, j3, c3⟩ := h_
      intro _ _
      have c13 := J_tr ty hb c12 c3
      have i103 := f10 u3 c13
      have kb3 := ob_k ty3 b1
      have e16 : u3.2.1 53 16 = σ.2.1 53 16 := (f53 u3 c13 16).2.1
      refine kjZ_y rfl rfl 6 _ _ _ _ ty3 ?_
      refine (And.intro (ty3.k (by decide) rfl) (Exists.intro _ (And.intro i103 (And.intro (ty3.k (by decide) rfl) (And.intro (ty3.k (by decide) rfl) (And.intro (Nat.le_of_ble_eq_true rfl) (And.intro (Or.inl ⟨(Nat.le_of_ble_eq_true rfl), (by assumption)⟩) (And.intro (Nat.le_of_ble_eq_true rfl) (And.intro (Nat.le_of_ble_eq_true rfl) (kjY_mono ty3 (fun q_ u4 ty4 xu4 h_ => ?_) (j_num (d := d + 3) ty3 g3 hb j3 (u3.2.1 53 16) (by rw [e16, List.length_append, List.length_append, List.length_append]; omega))))))))))))
      obtain ⟨rfl, g4, j4, c4⟩ := h_
      intro _ _
      refine kjZ_y rfl rfl 2 _ _ _ _ ty4 ?_
      refine And.intro rfl (And.intro rfl ?_)
      refine ⟨rfl, g4, ?_, J_tr ty hb c13 c4⟩
      have : l ++ encR [tb 6, w1, dec (σ.2.1 53 16)] = l ++ hdN 3 ++ wordL (tb 6) ++ wordL w1 ++ wordL (dec (u3.2.1 53 16)) := by
        rw [eL, eT, e16]; simp only [List.append_assoc]
      rw [this]; exact j4
    refine kjZ_y rfl rfl 4 _ _ _ _ ty ?_
    refine (And.intro (ty.k (by decide) rfl) (And.intro (ty.k (by decide) rfl) ?_))
    exact go _ hf
  · have hq : ntC (σ.1 53 13) (σ.1 53 15) (σ.2.1 53 16) j ws w1 wv = [tb 7, w1] := by unfold ntC; rw [hf, if_neg (by decide), if_neg (by decide), if_pos rfl]
    rw [hq] at hlen ⊢
    obtain ⟨hl2, eL⟩ := hdx 2 [tb 7, w1] rfl (by decide) hlen
    have eT : wordsL [tb 7, w1] = wordL (tb 7) ++ wordL w1 := by rw [wdsL_cons, wdsL_cons]; show _ ++ (_ ++ []) = _; rw [List.append_nil]
    rw [eT, List.length_append] at hl2
    have go : ∀ v : Int32, v = 3 → kjY kPP (kQQ Y) (d + 8) 29 (kSg 2 v) [some (.ref 0), none] [] σ (jP B b σ ws nm ks (l ++ encR [tb 7, w1])) := by
      intro v ev
      rw [ev, show kSg 2 3 = 45 by decide]
      refine kjZ_y rfl rfl 4 _ _ _ _ ty ?_
      refine (And.intro (ty.k (by decide) rfl) (Exists.intro _ (And.intro h10 (And.intro (Nat.le_of_ble_eq_true rfl) (And.intro (Or.inl ⟨(Nat.le_of_ble_eq_true rfl), (by assumption)⟩) (And.intro (Nat.le_of_ble_eq_true rfl) (And.intro (Nat.le_of_ble_eq_true rfl) (kjY_mono ty (fun q_ u1 ty1 xu1 h_ => ?_) (hH 2 _ rfl (by decide) (by omega))))))))))
      obtain ⟨rfl, g1, j1, c1⟩ := h_
      intro _ _
      have i10 := f10 u1 c1
      have kb1 := ob_k ty1 b1
      refine kjZ_y rfl rfl 4 _ _ _ _ ty1 ?_
      refine (And.intro (ty1.k (by decide) rfl) (Exists.intro _ (And.intro i10 (And.intro rfl (And.intro (Nat.le_of_ble_eq_true rfl) (And.intro (Or.inl ⟨(Nat.le_of_ble_eq_true rfl), (by assumption)⟩) (And.intro (Nat.le_of_ble_eq_true rfl) (And.intro (Nat.le_of_ble_eq_true rfl) (kjY_mono ty1 (fun q_ u2 ty2 xu2 h_ => ?_) (j_text (d := d + 1) ty1 g1 hb j1 (i := 7) (by decide) (by rw [List.length_append]; omega)))))))))))
      obtain ⟨rfl, g2, j2, c2⟩ := h_
      intro _ _
      have c12 := J_tr ty hb c1 c2
      have i102 := f10 u2 c12
      have kb2 := ob_k ty2 b1
      refine kjZ_y rfl rfl 6 _ _ _ _ ty2 ?_
      refine (And.intro (ty2.k (by decide) rfl) (And.intro (ty2.k (by decide) rfl) (Exists.intro _ (And.intro i102 (And.intro (Nat.le_of_ble_eq_true rfl) (And.intro (Or.inl ⟨(Nat.le_of_ble_eq_true rfl), (ty2.k (by decide) rfl)⟩) (And.intro (Nat.le_of_ble_eq_true rfl) (And.intro (Nat.le_of_ble_eq_true rfl) (kjY_mono ty2 (fun q_ u3 ty3 xu3 h_ => ?_) (j_arg (d := d + 2) ty2 g2 hb j2 h1 _ rfl (by rw [List.length_append, List.length_append]; omega)))))))))))
      obtain ⟨rfl, g3, j3, c3⟩ := h_
      intro _ _
      refine kjZ_y rfl rfl 2 _ _ _ _ ty3 ?_
      refine And.intro rfl (And.intro rfl ?_)
      refine ⟨rfl, g3, ?_, J_tr ty hb c12 c3⟩
      have : l ++ encR [tb 7, w1] = l ++ hdN 2 ++ wordL (tb 7) ++ wordL w1 := by
        rw [eL, eT]; simp only [List.append_assoc]
      rw [this]; exact j3
    refine kjZ_y rfl rfl 4 _ _ _ _ ty ?_
    refine (And.intro (ty.k (by decide) rfl) (And.intro (ty.k (by decide) rfl) ?_))
    exact go _ hf
end KNOTE3
