/-! GET, GETDEL, STRLEN, GETRANGE, GETBIT, BITCOUNT, MGET; TYPE, PERSIST, TTL. -/
section RTEXT
variable {Y : Nat → MethodName × ByteArray} {d : Nat}
theorem ky_wo (ks : List KR) (w : List Int32) : kyS ks w = -1 ∨ ∃ x ∈ ks, kyS ks w = nI x.1 := by
  rcases ky_cases ks w with ⟨g1, g2⟩ | ⟨P, y, Q, g0, g1, g2, -⟩
  · exact Or.inl g2
  · exact Or.inr ⟨y, by rw [g0]; exact List.mem_append_right _ List.mem_cons_self, g2⟩
set_option maxRecDepth 100000 in
theorem c_bc_in (K : mjK) (x1 x2 : Int32) (i : Nat) (x4 : Int32) (e4 : x4 = nI i) (hi : i < 70000) {σ : mjS} (ty : mjTY σ) (hK : ∀ x3 x5, mjY mjPP (mjQQ Y) d 92 154 [some (.ref 0), some (.int x1), some (.int x2), some (.int x3), some (.int x4), some (.int x5)] [] σ K) : ∀ (j b : Nat) (x3 x5 : Int32), x5 = nI b → b + j = 8 →
    mjY mjPP (mjQQ Y) d 92 138 [some (.ref 0), some (.int x1), some (.int x2), some (.int x3), some (.int x4), some (.int x5)] [] σ K := by
  have v4 : vp_in x4 70000 := by rw [e4]; exact vp_in_nI hi (by decide)
  intro j
  induction j with
  | zero =>
    intro b x3 x5 e5 hb
    refine mjZ_y rfl rfl 3 _ _ _ _ ty ?_
    refine And.intro (fun q => ?_) (fun q => ?_)
    · exact hK _ _
    · exact absurd (show nI 8 ≤ x5 by rw [e5]; exact nI_le (by omega) (by omega)) q
  | succ j ih =>
    intro b x3 x5 e5 hb
    refine mjZ_y rfl rfl 3 _ _ _ _ ty ?_
    refine And.intro (fun q => ?_) (fun q => ?_)
    · exact absurd (show nI 8 ≤ x5 from q) (by rw [e5]; exact nI_ge (by omega) (by omega))
    · refine mjZ_y rfl rfl 13 _ _ _ _ ty ?_
      refine (And.intro rfl (And.intro (Or.inl rfl) (And.intro v4 (And.intro (Nat.le_of_ble_eq_true rfl) ?_))))
      exact ih (b + 1) _ _ (by rw [e5]; exact nI_1 b) (by omega)
set_option maxRecDepth 100000 in
theorem c_bc_out (K : mjK) (x1 x2 : Int32) (t : Nat) (ht : t ≤ 70000) {σ : mjS} (ty : mjTY σ) (eu : σ.1 f_upTo = nI t) (hK : ∀ x3 x4 l5, mjY mjPP (mjQQ Y) d 92 156 [some (.ref 0), some (.int x1), some (.int x2), some (.int x3), some (.int x4), l5] [] σ K) : ∀ (j i : Nat) (x3 x4 : Int32) (l5 : Option Value), x4 = nI i → j = t - i → i ≤ 70000 →
    mjY mjPP (mjQQ Y) d 92 132 [some (.ref 0), some (.int x1), some (.int x2), some (.int x3), some (.int x4), l5] [] σ K := by
  intro j
  induction j with
  | zero =>
    intro i x3 x4 l5 e4 hj hi
    refine mjZ_y rfl rfl 4 _ _ _ _ ty ?_
    refine (And.intro rfl (And.intro (fun q => ?_) (fun q => ?_)))
    · exact hK _ _ _
    · exact absurd (show σ.1 f_upTo ≤ x4 by rw [eu, e4]; exact nI_le (by omega) (by omega)) q
  | succ j ih =>
    intro i x3 x4 l5 e4 hj hi
    refine mjZ_y rfl rfl 4 _ _ _ _ ty ?_
    refine (And.intro rfl (And.intro (fun q => ?_) (fun q => ?_)))
    · exact absurd (show σ.1 f_upTo ≤ x4 from q) (by rw [eu, e4]; exact nI_ge (by omega) (by omega))
    · refine mjZ_y rfl rfl 2 _ _ _ _ ty ?_
      refine (And.intro (Nat.le_of_ble_eq_true rfl) ?_)
      refine c_bc_in K x1 x2 i x4 e4 (by omega) ty (fun x3 x5 => ?_) 8 0 _ _ rfl rfl
      refine mjZ_y rfl rfl 2 _ _ _ _ ty ?_
      exact ih (i + 1) _ _ _ (by rw [e4]; exact nI_1 i) (by omega) (by omega)
/-- GETDEL takes the key -/
def gdL (σ : mjS) (l : List Int32) (A : List AK) (w : List Int32) : List Int32 := if kyI A w = none then l else ntG σ l w
def txK (σ : mjS) (ws : List (List Int32)) (ks : List KR) (l : List Int32) (i : Nat) (w : List Int32) : mjK := fun r u => r = none ∧ Fr cF cH σ u ∧ ∃ ks', Wd u ws ks' (if i = 3 then gdL σ l (strip ks) w else l) ∧ strip ks' = (if i = 3 then delA (strip ks) w else strip ks)
set_option maxRecDepth 100000 in
theorem r_text {σ : mjS} {ws : List (List Int32)} {ks : List KR} {l : List Int32} (h : Wd σ ws ks l) (ty : mjTY σ) (i1 : Nat) (hi : i1 < 128) {x1 : Int32} (e1 : x1 = nI i1) {w : List Int32} (h1 : ws[1]? = some w) (hx : (txA (strip ks) w).length ≤ 70000) (n : Nat) (hn : i1 = 20 → n ≤ 131071 ∧ σ.2.1 f_n1 = lN n) (hs : l.length + 132 + (w.length + 26) ≤ 420000) :
    mjY mjPP (mjQQ Y) (d + 6) 92 0 (mjL0 6 [.ref 0, .int x1]) [] σ (txK σ ws ks l i1 w) := by
  have nn : ∀ c : Nat, c < 128 → ((¬ x1 = nI c) ↔ ¬ i1 = c) := fun c hc => by rw [e1, nI_eq (by omega) (by omega)]
  refine mjZ_y rfl rfl 3 _ _ _ _ ty ?_
  refine (And.intro (Nat.le_of_ble_eq_true rfl) (And.intro rfl (And.intro (Nat.le_of_ble_eq_true rfl) (And.intro (Nat.le_of_ble_eq_true rfl) (mjY_mono ty (fun q_ u1 ty1 h_ => ?_) (w_key h ty h1 (x := Int32.ofInt 1) rfl))))))
  obtain ⟨rfl, rfl⟩ := h_
  intro _
  have rd : ∀ u, ¬ i1 = 3 → Fr cF cH u1 u → Wd u ws ks l → txK u1 ws ks l i1 w none u := fun u n3 fu hu => ⟨rfl, fu, ks, by rw [if_neg n3]; exact hu, by rw [if_neg n3]⟩
  refine mjZ_y rfl rfl 4 _ _ _ _ ty1 ?_
  refine (And.intro (Nat.le_of_ble_eq_true rfl) (And.intro (fun a => ?_) (fun a => ?_)))
  · have a := (nn 1 (by decide)).mp a
    refine mjZ_y rfl rfl 3 _ _ _ _ ty1 ?_
    refine And.intro (fun b => ?_) (fun b => ?_)
    · have b := (nn 3 (by decide)).mp b
      refine mjZ_y rfl rfl 3 _ _ _ _ ty1 ?_
      refine And.intro (fun c => ?_) (fun c => ?_)
      · have c := (nn 12 (by decide)).mp c
        refine mjZ_y rfl rfl 3 _ _ _ _ ty1 ?_
        refine And.intro (fun e => ?_) (fun e => ?_)
        · have e := (nn 13 (by decide)).mp e
          refine mjZ_y rfl rfl 3 _ _ _ _ ty1 ?_
          refine And.intro (fun f => ?_) (fun f => ?_)
          · have f := (nn 20 (by decide)).mp f
            refine mjZ_y rfl rfl 3 _ _ _ _ ty1 ?_
            refine And.intro (fun g => ?_) (fun g => ?_)
            · refine mjZ_y rfl rfl 1 _ _ _ _ ty1 ?_
              refine And.intro rfl (And.intro rfl ?_)
              exact rd u1 b Fr.rf h
            · refine mjZ_y rfl rfl 3 _ _ _ _ ty1 ?_
              refine (And.intro (Nat.le_of_ble_eq_true rfl) (And.intro rfl (And.intro (Nat.le_of_ble_eq_true rfl) (And.intro (Nat.le_of_ble_eq_true rfl) (mjY_mono ty1 (fun q_ u2 ty2 h_ => ?_) (w_takeText h ty1 (w := w) rfl hx))))))
              obtain ⟨rfl, h2, f2, k2⟩ := h_
              intro _
              have f2c : Fr cF cH u1 u2 := f2.up (by decide) (by decide)
              have hk2 := k2.2.1
              have fin : ∀ u : mjS, mjTY u → Fr [f_from, f_upTo] [] u2 u → (∃ t f : Nat, t ≤ 70000 ∧ f ≤ 70000 ∧ u.1 f_from = nI f ∧ u.1 f_upTo = nI t) → mjY mjPP (mjQQ Y) (d + 6) 92 127 [some (.ref 0), some (.int x1), some (.int (kyS ks w)), none, none, none] [] u (txK u1 ws ks l i1 w) := by
                intro u tu fu hft
                obtain ⟨t, f0, ht, hf0, ef, et⟩ := hft
                have hu := h2.fr fu (by decide) (by decide)
                refine mjZ_y rfl rfl 5 _ _ _ _ tu ?_
                refine (And.intro (Nat.le_of_ble_eq_true rfl) (And.intro rfl (And.intro (Nat.le_of_ble_eq_true rfl) ?_)))
                refine c_bc_out _ x1 _ t ht tu et (fun x3 x4 l5 => ?_) (t - f0) f0 _ _ _ ef rfl hf0
                refine mjZ_y rfl rfl 4 _ _ _ _ tu ?_
                refine (And.intro (Nat.le_of_ble_eq_true rfl) (And.intro rfl (And.intro (Nat.le_of_ble_eq_true rfl) (And.intro (Nat.le_of_ble_eq_true rfl) (mjY_mono tu (fun q_ u3 ty3 h_ => ?_) (w_number hu tu _))))))
                obtain ⟨rfl, h3, f3⟩ := h_
                intro _
                refine mjZ_y rfl rfl 1 _ _ _ _ ty3 ?_
                refine And.intro rfl (And.intro rfl ?_)
                exact rd u3 b ((f2c.tr (fu.up (by decide) (by decide))).tr f3.c) h3
              have hc := c_stretch (Y := Y) (d := d + 5) ty2 0 (-1) (txA (strip ks) w).length (by omega) k2.1
              have sle := strF_le 0 (-1) (txA (strip ks) w).length (by omega)
              refine mjZ_y rfl rfl 6 _ _ _ _ ty2 ?_
              refine (And.intro rfl (And.intro (Nat.le_of_ble_eq_true rfl) (And.intro rfl (And.intro (Nat.le_of_ble_eq_true rfl) (And.intro (Nat.le_of_ble_eq_true rfl) (mjY_mono ty2 (fun q_ u3 ty3 h_ => ?_) (hc)))))))
              obtain ⟨rfl, f3, e3, e4⟩ := h_
              intro _
              refine mjZ_y rfl rfl 4 _ _ _ _ ty3 ?_
              refine (And.intro rfl (And.intro (fun q => ?_) (fun q => ?_)))
              · exact fin u3 ty3 f3 ⟨_, _, by omega, by omega, e3, e4⟩
              · have ez : u3.1 f_workSize = nI (txA (strip ks) w).length := by rw [f3.1 _ (by decide)]; exact k2.1
                have hc2 := c_stretch (Y := Y) (d := d + 5) ty3 (u3.2.1 f_n1) (u3.2.1 f_n2) (txA (strip ks) w).length (by omega) ez
                have sle2 := strF_le (u3.2.1 f_n1) (u3.2.1 f_n2) (txA (strip ks) w).length (by omega)
                refine mjZ_y rfl rfl 8 _ _ _ _ ty3 ?_
                refine (And.intro rfl (And.intro rfl (And.intro rfl (And.intro (Nat.le_of_ble_eq_true rfl) (And.intro rfl (And.intro (Nat.le_of_ble_eq_true rfl) (And.intro (Nat.le_of_ble_eq_true rfl) (mjY_mono ty3 (fun q_ u4 ty4 h_ => ?_) (hc2)))))))))
                obtain ⟨rfl, f4, e5, e6⟩ := h_
                intro _
                exact fin u4 ty4 (f3.tr f4) ⟨_, _, by omega, by omega, e5, e6⟩
          · have f : i1 = 20 := Decidable.of_not_not (fun z => f ((nn 20 (by decide)).mpr z))
            obtain ⟨hn1, en⟩ := hn f
            refine mjZ_y rfl rfl 3 _ _ _ _ ty1 ?_
            refine (And.intro (Nat.le_of_ble_eq_true rfl) (And.intro rfl (And.intro (Nat.le_of_ble_eq_true rfl) (And.intro (Nat.le_of_ble_eq_true rfl) (mjY_mono ty1 (fun q_ u2 ty2 h_ => ?_) (w_takeText h ty1 (w := w) rfl hx))))))
            obtain ⟨rfl, h2, f2, k2⟩ := h_
            intro _
            have f2c : Fr cF cH u1 u2 := f2.up (by decide) (by decide)
            have hk2 := k2.2.1
            have en2 : u2.2.1 75 = lN n := by rw [show u2.2.1 75 = u1.2.1 75 from f2.2.1 75 (by decide)]; exact en
            have e3 : (u2.2.1 75).toInt32 / (Int8.ofInt 8).toInt32 = nI (n / 8) := by rw [en2, lN_i, show (Int8.ofInt 8).toInt32 = nI 8 from by decide]; exact pk_div (by omega) (by decide) (by decide)
            have tail : ∀ (x3 : Int32) (z : Int64), mjY mjPP (mjQQ Y) (d + 6) 92 101 [some (.ref 0), some (.int x1), some (.int (kyS ks w)), some (.int x3), none, none] [.long z, .ref 0] u2 (txK u1 ws ks l i1 w) := by
              intro x3 z
              refine mjZ_y rfl rfl 1 _ _ _ _ ty2 ?_
              refine (And.intro (Nat.le_of_ble_eq_true rfl) (And.intro rfl (And.intro (Nat.le_of_ble_eq_true rfl) (And.intro (Nat.le_of_ble_eq_true rfl) (mjY_mono ty2 (fun q_ u3 ty3 h_ => ?_) (w_number h2 ty2 _))))))
              obtain ⟨rfl, h3, f3⟩ := h_
              intro _
              refine mjZ_y rfl rfl 2 _ _ _ _ ty3 ?_
              refine And.intro rfl (And.intro rfl ?_)
              exact rd u3 b (f2c.tr f3.c) h3
            refine mjZ_y rfl rfl 6 _ _ _ _ ty2 ?_
            refine (And.intro rfl (And.intro (by decide) (And.intro (Nat.le_of_ble_eq_true rfl) ?_)))
            generalize (u2.2.1 75).toInt32 / (Int8.ofInt 8).toInt32 = x3 at e3
            refine mjZ_y rfl rfl 5 _ _ _ _ ty2 ?_
            refine (And.intro rfl (And.intro (fun q => ?_) (fun q => ?_)))
            · refine mjZ_y rfl rfl 1 _ _ _ _ ty2 ?_
              exact tail x3 _
            · have q : n / 8 < (txA (strip ks) w).length := Nat.lt_of_not_le (fun z => q (show u2.1 f_workSize ≤ x3 by rw [k2.1, e3]; exact nI_le z (by omega)))
              have v3 : vp_in x3 70000 := by rw [e3]; exact vp_in_nI (by omega) (by decide)
              refine mjZ_y rfl rfl 16 _ _ _ _ ty2 ?_
              refine (And.intro rfl (And.intro (Or.inl rfl) (And.intro v3 (And.intro rfl (And.intro (by decide) ?_)))))
              exact tail x3 _
        · have e : i1 = 13 := Decidable.of_not_not (fun z => e ((nn 13 (by decide)).mpr z))
          refine mjZ_y rfl rfl 3 _ _ _ _ ty1 ?_
          refine (And.intro (Nat.le_of_ble_eq_true rfl) (And.intro rfl (And.intro (Nat.le_of_ble_eq_true rfl) (And.intro (Nat.le_of_ble_eq_true rfl) (mjY_mono ty1 (fun q_ u2 ty2 h_ => ?_) (w_takeText h ty1 (w := w) rfl hx))))))
          obtain ⟨rfl, h2, f2, k2⟩ := h_
          intro _
          have f2c : Fr cF cH u1 u2 := f2.up (by decide) (by decide)
          have hk2 := k2.2.1
          have hc := c_stretch (Y := Y) (d := d + 5) ty2 (u2.2.1 f_n1) (u2.2.1 f_n2) (txA (strip ks) w).length (by omega) k2.1
          have sle := strF_le (u2.2.1 f_n1) (u2.2.1 f_n2) (txA (strip ks) w).length (by omega)
          refine mjZ_y rfl rfl 8 _ _ _ _ ty2 ?_
          refine (And.intro rfl (And.intro rfl (And.intro rfl (And.intro (Nat.le_of_ble_eq_true rfl) (And.intro rfl (And.intro (Nat.le_of_ble_eq_true rfl) (And.intro (Nat.le_of_ble_eq_true rfl) (mjY_mono ty2 (fun q_ u3 ty3 h_ => ?_) (hc)))))))))
          obtain ⟨rfl, f3, e3, e4⟩ := h_
          intro _
          have h3 := h2.fr f3 (by decide) (by decide)
          have e5 : u3.1 f_upTo - u3.1 f_from = nI ((strF (u2.2.1 f_n1) (u2.2.1 f_n2) (txA (strip ks) w).length).2 - (strF (u2.2.1 f_n1) (u2.2.1 f_n2) (txA (strip ks) w).length).1) := by rw [e3, e4]; exact pk_sub sle.1
          refine mjZ_y rfl rfl 11 _ _ _ _ ty3 ?_
          refine (And.intro rfl (And.intro rfl (And.intro rfl (And.intro rfl (And.intro (Nat.le_of_ble_eq_true rfl) (And.intro rfl (And.intro (Nat.le_of_ble_eq_true rfl) (And.intro (Nat.le_of_ble_eq_true rfl) (mjY_mono ty3 (fun q_ u4 ty4 h_ => ?_) (w_word h3 ty3 r_work _ _ _ _ e3 e5 rfl (by show _ ≤ 70000; omega) (by decide)))))))))))
          obtain ⟨rfl, h4, f4⟩ := h_
          intro _
          refine mjZ_y rfl rfl 2 _ _ _ _ ty4 ?_
          refine And.intro rfl (And.intro rfl ?_)
          exact rd u4 b ((f2c.tr (f3.up (by decide) (by decide))).tr f4.c) h4
      · have c : i1 = 12 := Decidable.of_not_not (fun z => c ((nn 12 (by decide)).mpr z))
        have tail : ∀ z : Int64, mjY mjPP (mjQQ Y) (d + 6) 92 39 [some (.ref 0), some (.int x1), some (.int (kyS ks w)), none, none, none] [.long z, .ref 0] u1 (txK u1 ws ks l i1 w) := by
          intro z
          refine mjZ_y rfl rfl 1 _ _ _ _ ty1 ?_
          refine (And.intro (Nat.le_of_ble_eq_true rfl) (And.intro rfl (And.intro (Nat.le_of_ble_eq_true rfl) (And.intro (Nat.le_of_ble_eq_true rfl) (mjY_mono ty1 (fun q_ u3 ty3 h_ => ?_) (w_number h ty1 _))))))
          obtain ⟨rfl, h3, f3⟩ := h_
          intro _
          refine mjZ_y rfl rfl 2 _ _ _ _ ty3 ?_
          refine And.intro rfl (And.intro rfl ?_)
          exact rd u3 b f3.c h3
        refine mjZ_y rfl rfl 3 _ _ _ _ ty1 ?_
        refine And.intro (fun q => ?_) (fun q => ?_)
        · have q := (ky_ge h w).1.mp q
          obtain ⟨P, y, Q, g0, g1, g2, -⟩ := ky_some q
          have h' : Wd u1 ws (P ++ y :: Q) l := by rw [← g0]; exact h
          have hid := h'.id
          have vk : vp_in (kyS ks w) 4700 := by rw [g2]; exact vp_in_nI hid (by decide)
          refine mjZ_y rfl rfl 5 _ _ _ _ ty1 ?_
          refine (And.intro rfl (And.intro rfl (And.intro vk ?_)))
          exact tail _
        · refine mjZ_y rfl rfl 2 _ _ _ _ ty1 ?_
          exact tail _
    · have b : i1 = 3 := Decidable.of_not_not (fun z => b ((nn 3 (by decide)).mpr z))
      refine mjZ_y rfl rfl 3 _ _ _ _ ty1 ?_
      refine (And.intro (Nat.le_of_ble_eq_true rfl) (And.intro rfl (And.intro (Nat.le_of_ble_eq_true rfl) (And.intro (Nat.le_of_ble_eq_true rfl) (mjY_mono ty1 (fun q_ u2 ty2 h_ => ?_) (w_wordOf h ty1 (ky_wo ks w)))))))
      obtain ⟨rfl, h2, f2⟩ := h_
      intro _
      refine mjZ_y rfl rfl 2 _ _ _ _ ty2 ?_
      refine And.intro (fun q => ?_) (fun q => ?_)
      · have q := (ky_ge h w).2.mp q
        refine mjZ_y rfl rfl 1 _ _ _ _ ty2 ?_
        refine And.intro rfl (And.intro rfl ?_)
        refine ⟨rfl, f2.c, ks, ?_, ?_⟩
        · rw [if_pos b]; unfold gdL; rw [if_pos q]; exact h2
        · rw [if_pos b]; unfold delA; rw [q]
      · have q : ¬ kyI (strip ks) w = none := fun z => q ((ky_ge h w).2.mpr z)
        obtain ⟨P, y, Q, g0, g1, g2, -⟩ := ky_some q
        have e2 : kyS ks w = nI y.1 := g2
        generalize kyS ks w = x2 at e2
        subst g0
        refine mjZ_y rfl rfl 3 _ _ _ _ ty2 ?_
        refine (And.intro (Nat.le_of_ble_eq_true rfl) (And.intro rfl (And.intro (Nat.le_of_ble_eq_true rfl) (And.intro (Nat.le_of_ble_eq_true rfl) (mjY_mono ty2 (fun q_ u3 ty3 h_ => ?_) (w_goneKey h2 ty2 e2))))))
        obtain ⟨rfl, h3, f3⟩ := h_
        intro _
        refine mjZ_y rfl rfl 3 _ _ _ _ ty3 ?_
        refine (And.intro (Nat.le_of_ble_eq_true rfl) (And.intro rfl (And.intro (Nat.le_of_ble_eq_true rfl) (And.intro (Nat.le_of_ble_eq_true rfl) (mjY_mono ty3 (fun q_ u4 ty4 h_ => ?_) (w_noteGone h3 ty3 h1 (x := Int32.ofInt 1) rfl hs))))))
        obtain ⟨rfl, h4, f4⟩ := h_
        intro _
        refine mjZ_y rfl rfl 2 _ _ _ _ ty4 ?_
        refine And.intro rfl (And.intro rfl ?_)
        have fa := f2.c.tr f3.k1
        rw [ntG_fr fa] at h4
        refine ⟨rfl, fa.tr f4.n, P ++ Q, ?_, ?_⟩
        · rw [if_pos b]; unfold gdL; rw [if_neg q]; exact h4
        · rw [if_pos b]; unfold delA; rw [g1]; exact strip_rm
  · have a : i1 = 1 := Decidable.of_not_not (fun z => a ((nn 1 (by decide)).mpr z))
    refine mjZ_y rfl rfl 3 _ _ _ _ ty1 ?_
    refine (And.intro (Nat.le_of_ble_eq_true rfl) (And.intro rfl (And.intro (Nat.le_of_ble_eq_true rfl) (And.intro (Nat.le_of_ble_eq_true rfl) (mjY_mono ty1 (fun q_ u2 ty2 h_ => ?_) (w_wordOf h ty1 (ky_wo ks w)))))))
    obtain ⟨rfl, h2, f2⟩ := h_
    intro _
    refine mjZ_y rfl rfl 2 _ _ _ _ ty2 ?_
    refine And.intro rfl (And.intro rfl ?_)
    exact rd u2 (by omega) f2.c h2
-- MGET
set_option maxRecDepth 100000 in
theorem c_mget_loop (K : mjK) {ws : List (List Int32)} {ks : List KR} {l : List Int32} : ∀ (m a : Nat) (σ : mjS) (x1 : Int32) (l2 : Option Value), a + m = ws.length → x1 = nI a → mjTY σ → Wd σ ws ks l → (∀ u, Fr cF cH σ u → Wd u ws ks l → K none u) →
    mjY mjPP (mjQQ Y) (d + 4) 93 8 [some (.ref 0), some (.int x1), l2] [] σ K := by
  intro m
  induction m with
  | zero =>
    intro a σ x1 l2 ha e1 ty h hK
    have h1024 := h.2.1.2.1
    refine mjZ_y rfl rfl 4 _ _ _ _ ty ?_
    refine (And.intro rfl (And.intro (fun q => ?_) (fun q => ?_)))
    · refine mjZ_y rfl rfl 1 _ _ _ _ ty ?_
      refine And.intro rfl (And.intro rfl ?_)
      exact hK σ Fr.rf h
    · exact absurd (show σ.1 f_words ≤ x1 by rw [h.2.1.1, e1]; exact nI_le (by omega) (by omega)) q
  | succ m ih =>
    intro a σ x1 l2 ha e1 ty h hK
    have h1024 := h.2.1.2.1
    obtain ⟨v, hv, -⟩ := drop1 ha
    refine mjZ_y rfl rfl 4 _ _ _ _ ty ?_
    refine (And.intro rfl (And.intro (fun q => ?_) (fun q => ?_)))
    · exact absurd (show σ.1 f_words ≤ x1 from q) (by rw [h.2.1.1, e1]; exact nI_ge (by omega) (by omega))
    · refine mjZ_y rfl rfl 3 _ _ _ _ ty ?_
      refine (And.intro (Nat.le_of_ble_eq_true rfl) (And.intro rfl (And.intro (Nat.le_of_ble_eq_true rfl) (And.intro (Nat.le_of_ble_eq_true rfl) (mjY_mono ty (fun q_ u1 ty1 h_ => ?_) (w_key h ty hv e1))))))
      obtain ⟨rfl, rfl⟩ := h_
      intro _
      have tail : ∀ x2 : Int32, (x2 = -1 ∨ ∃ x ∈ ks, x2 = nI x.1) → mjY mjPP (mjQQ Y) (d + 4) 93 25 [some (.ref 0), some (.int x1), some (.int x2)] [] u1 K := by
        intro x2 hx2
        refine mjZ_y rfl rfl 3 _ _ _ _ ty ?_
        refine (And.intro (Nat.le_of_ble_eq_true rfl) (And.intro rfl (And.intro (Nat.le_of_ble_eq_true rfl) (And.intro (Nat.le_of_ble_eq_true rfl) (mjY_mono ty (fun q_ u2 ty2 h_ => ?_) (w_wordOf h ty hx2))))))
        obtain ⟨rfl, h2, f2⟩ := h_
        intro _
        refine mjZ_y rfl rfl 2 _ _ _ _ ty2 ?_
        exact ih (a + 1) u2 _ _ (by omega) (by rw [e1]; exact nI_1 a) ty2 h2 (fun u fu hu => hK u (f2.c.tr fu) hu)
      refine mjZ_y rfl rfl 3 _ _ _ _ ty ?_
      refine (And.intro (Nat.le_of_ble_eq_true rfl) (And.intro (fun b => ?_) (fun b => ?_)))
      · exact tail _ (ky_wo ks v)
      · have b : ¬ kyI (strip ks) v = none := fun z => b ((ky_ge h v).2.mpr z)
        obtain ⟨P, y, Q, g0, g1, g2, -⟩ := ky_some b
        have h' : Wd u1 ws (P ++ y :: Q) l := by rw [← g0]; exact h
        have hid := h'.id
        have vk : vp_in (kyS ks v) 4700 := by rw [g2]; exact vp_in_nI hid (by decide)
        refine mjZ_y rfl rfl 5 _ _ _ _ ty ?_
        refine (And.intro rfl (And.intro rfl (And.intro vk (And.intro (fun c => ?_) (fun c => ?_)))))
        · exact tail _ (ky_wo ks v)
        · refine mjZ_y rfl rfl 2 _ _ _ _ ty ?_
          refine (And.intro (Nat.le_of_ble_eq_true rfl) ?_)
          exact tail _ (Or.inl rfl)
set_option maxRecDepth 100000 in
theorem r_getMany {σ : mjS} {ws : List (List Int32)} {ks : List KR} {l : List Int32} (h : Wd σ ws ks l) (ty : mjTY σ) (hw : 1 ≤ ws.length) : mjY mjPP (mjQQ Y) (d + 6) 93 0 (mjL0 3 [.ref 0]) [] σ (cmdK σ ws ks l 8 none) := by
  refine mjZ_y rfl rfl 6 _ _ _ _ ty ?_
  refine (And.intro rfl (And.intro (Nat.le_of_ble_eq_true rfl) (And.intro rfl (And.intro (Nat.le_of_ble_eq_true rfl) (And.intro (Nat.le_of_ble_eq_true rfl) (mjY_mono ty (fun q_ u1 ty1 h_ => ?_) (w_row h ty _)))))))
  obtain ⟨rfl, h1, f1⟩ := h_
  intro _
  refine mjZ_y rfl rfl 2 _ _ _ _ ty1 ?_
  refine (And.intro (Nat.le_of_ble_eq_true rfl) ?_)
  exact c_mget_loop _ (ws.length - 1) 1 u1 _ _ (by omega) rfl ty1 h1 (fun u fu hu => ⟨rfl, f1.c.tr fu, ks, hu, rfl⟩)
-- TYPE, PERSIST, TTL, PTTL
def peF (A : List AK) (w : List Int32) : Option (List AK) := match kyI A w with
  | none => none
  | some p => (match A[p]? with
    | none => none
    | some a => if a.2.2.1 = 0 then none else some (upA A p untF))
set_option maxRecDepth 100000 in
theorem r_key {σ : mjS} {ws : List (List Int32)} {ks : List KR} {l : List Int32} (h : Wd σ ws ks l) (ty : mjTY σ) (i1 : Nat) (hi : i1 < 128) {x1 : Int32} (e1 : x1 = nI i1) {w : List Int32} (h1 : ws[1]? = some w) (hs : l.length + 132 + sz ws ≤ 420000) :
    mjY mjPP (mjQQ Y) (d + 6) 100 0 (mjL0 5 [.ref 0, .int x1]) [] σ (cmdK σ ws ks l i1 (if i1 = 34 then peF (strip ks) w else none)) := by
  have hlen := (List.getElem?_eq_some_iff.mp h1).1
  have nn : ∀ c : Nat, c < 128 → ((¬ x1 = nI c) ↔ ¬ i1 = c) := fun c hc => by rw [e1, nI_eq (by omega) (by omega)]
  refine mjZ_y rfl rfl 3 _ _ _ _ ty ?_
  refine (And.intro (Nat.le_of_ble_eq_true rfl) (And.intro rfl (And.intro (Nat.le_of_ble_eq_true rfl) (And.intro (Nat.le_of_ble_eq_true rfl) (mjY_mono ty (fun q_ u1 ty1 h_ => ?_) (w_key h ty h1 (x := Int32.ofInt 1) rfl))))))
  obtain ⟨rfl, rfl⟩ := h_
  intro _
  have vk : ¬ kyS ks w < 0 → vp_in (kyS ks w) 4700 := by
    intro q
    have q : ¬ kyI (strip ks) w = none := fun z => q ((ky_ge h w).2.mpr z)
    obtain ⟨P, y, Q, g0, g1, g2, -⟩ := ky_some q
    have h' : Wd u1 ws (P ++ y :: Q) l := by rw [← g0]; exact h
    rw [g2]; exact vp_in_nI h'.id (by decide)
  generalize hk2 : kyS ks w = x2 at vk
  refine mjZ_y rfl rfl 4 _ _ _ _ ty1 ?_
  refine (And.intro (Nat.le_of_ble_eq_true rfl) (And.intro (fun a => ?_) (fun a => ?_)))
  · have a := (nn 24 (by decide)).mp a
    refine mjZ_y rfl rfl 3 _ _ _ _ ty1 ?_
    refine And.intro (fun b => ?_) (fun b => ?_)
    · have b := (nn 34 (by decide)).mp b
      rw [if_neg b]
      have tail : ∀ z : Int64, mjY mjPP (mjQQ Y) (d + 6) 100 121 [some (.ref 0), some (.int x1), some (.int x2), some (.long z), none] [] u1 (cmdK u1 ws ks l i1 none) := by
        intro z
        refine mjZ_y rfl rfl 3 _ _ _ _ ty1 ?_
        refine (And.intro (Nat.le_of_ble_eq_true rfl) (And.intro rfl (And.intro (Nat.le_of_ble_eq_true rfl) (And.intro (Nat.le_of_ble_eq_true rfl) (mjY_mono ty1 (fun q_ u2 ty2 h_ => ?_) (w_number h ty1 _))))))
        obtain ⟨rfl, h2, f2⟩ := h_
        intro _
        refine mjZ_y rfl rfl 1 _ _ _ _ ty2 ?_
        refine And.intro rfl (And.intro rfl ?_)
        exact ⟨rfl, f2.c, ks, h2, rfl⟩
      have s97 : ∀ z : Int64, mjY mjPP (mjQQ Y) (d + 6) 100 97 [some (.ref 0), some (.int x1), some (.int x2), some (.long z), none] [] u1 (cmdK u1 ws ks l i1 none) := by
        intro z
        refine mjZ_y rfl rfl 2 _ _ _ _ ty1 ?_
        refine And.intro (fun q => ?_) (fun q => ?_)
        · exact tail _
        · refine mjZ_y rfl rfl 5 _ _ _ _ ty1 ?_
          refine (And.intro rfl (And.intro (Or.inr rfl) (And.intro (vk q) (And.intro (fun r => ?_) (fun r => ?_)))))
          · exact tail _
          · refine mjZ_y rfl rfl 11 _ _ _ _ ty1 ?_
            refine (And.intro rfl (And.intro rfl (And.intro (vk q) (And.intro rfl (And.intro (Nat.le_of_ble_eq_true rfl) (And.intro (fun s => ?_) (fun s => ?_)))))))
            · exact tail _
            · refine mjZ_y rfl rfl 6 _ _ _ _ ty1 ?_
              refine (And.intro (by decide) (And.intro (Nat.le_of_ble_eq_true rfl) ?_))
              exact tail _
      refine mjZ_y rfl rfl 4 _ _ _ _ ty1 ?_
      refine (And.intro (Nat.le_of_ble_eq_true rfl) (And.intro (fun q => ?_) (fun q => ?_)))
      · exact s97 _
      · refine mjZ_y rfl rfl 2 _ _ _ _ ty1 ?_
        refine (And.intro (Nat.le_of_ble_eq_true rfl) ?_)
        exact s97 _
    · have b : i1 = 34 := Decidable.of_not_not (fun z => b ((nn 34 (by decide)).mpr z))
      rw [if_pos b]
      have no : peF (strip ks) w = none → mjY mjPP (mjQQ Y) (d + 6) 100 72 [some (.ref 0), some (.int x1), some (.int x2), none, none] [] u1 (cmdK u1 ws ks l i1 (peF (strip ks) w)) := by
        intro eo
        rw [eo]
        refine mjZ_y rfl rfl 3 _ _ _ _ ty1 ?_
        refine (And.intro (Nat.le_of_ble_eq_true rfl) (And.intro rfl (And.intro (Nat.le_of_ble_eq_true rfl) (And.intro (Nat.le_of_ble_eq_true rfl) (mjY_mono ty1 (fun q_ u2 ty2 h_ => ?_) (w_number h ty1 _))))))
        obtain ⟨rfl, h2, f2⟩ := h_
        intro _
        refine mjZ_y rfl rfl 1 _ _ _ _ ty2 ?_
        refine And.intro rfl (And.intro rfl ?_)
        exact ⟨rfl, f2.c, ks, h2, rfl⟩
      refine mjZ_y rfl rfl 2 _ _ _ _ ty1 ?_
      refine And.intro (fun q => ?_) (fun q => ?_)
      · have q : kyI (strip ks) w = none := (ky_ge h w).2.mp (by rw [hk2]; exact q)
        exact no (by unfold peF; rw [q])
      · have q0 : ¬ kyI (strip ks) w = none := fun z => q (by rw [← hk2]; exact (ky_ge h w).2.mpr z)
        obtain ⟨P, y, Q, g0, g1, g2, -⟩ := ky_some q0
        have e2 : x2 = nI y.1 := hk2.symm.trans g2
        have h' : Wd u1 ws (P ++ y :: Q) l := by rw [← g0]; exact h
        obtain ⟨hz, hh, ko⟩ := h'.kok (List.mem_append_right P (List.mem_cons_self (a := y) (l := Q)))
        have hid := ko.1
        have c2 : x2.toNatClampNeg = y.1 := by rw [e2]; exact nI_clamp (by omega)
        have etm : u1.2.2.1 r_kTimed x2.toNatClampNeg = y.2.2.2.1 := by rw [c2]; exact ko.2.2.2.1
        have eo : peF (strip ks) w = if y.2.2.2.1 = 0 then none else some (upA (strip ks) P.length untF) := by
          unfold peF; rw [g1]
          show (match (strip ks)[P.length]? with | none => none | some a => if a.2.2.1 = 0 then none else some (upA (strip ks) P.length untF)) = _
          rw [g0, strip_gt]; rfl
        refine mjZ_y rfl rfl 5 _ _ _ _ ty1 ?_
        refine (And.intro rfl (And.intro (Or.inr rfl) (And.intro (vk q) (And.intro (fun r => ?_) (fun r => ?_)))))
        · have r : ¬ y.2.2.2.1 = 0 := fun z => r (show u1.2.2.1 r_kTimed x2.toNatClampNeg = 0 by rw [etm]; exact z)
          rw [eo, if_neg r]
          refine mjZ_y rfl rfl 5 _ _ _ _ ty1 ?_
          refine (And.intro rfl (And.intro (Or.inr ⟨rfl, Or.inl rfl⟩) (And.intro (vk q) (fun ty1' => ?_))))
          have h3 := h'.timed c2 0
          have f3 : Fr cF cH u1 (u1.1, u1.2.1, mjIu u1.2.2.1 r_kTimed x2.toNatClampNeg 0, u1.2.2.2) := Fr.a (h := r_kTimed) (by decide)
          refine mjZ_y rfl rfl 3 _ _ _ _ ty1' ?_
          refine (And.intro (Nat.le_of_ble_eq_true rfl) (And.intro rfl (And.intro (Nat.le_of_ble_eq_true rfl) (And.intro (Nat.le_of_ble_eq_true rfl) (mjY_mono ty1' (fun q_ u4 ty4 h_ => ?_) (w_touch h3 ty1' (x := (y.1, y.2.1, y.2.2.1, 0, y.2.2.2.2.1, y.2.2.2.2.2.1, y.2.2.2.2.2.2)) (List.mem_append_right _ List.mem_cons_self) e2))))))
          obtain ⟨rfl, h4, f4⟩ := h_
          intro _
          refine mjZ_y rfl rfl 3 _ _ _ _ ty4 ?_
          refine (And.intro (Nat.le_of_ble_eq_true rfl) (And.intro rfl (And.intro (Nat.le_of_ble_eq_true rfl) (And.intro (Nat.le_of_ble_eq_true rfl) (mjY_mono ty4 (fun q_ u5 ty5 h_ => ?_) (w_noteAll h4 ty4 (by omega) i1 e1 hi hs))))))
          obtain ⟨rfl, h5, f5⟩ := h_
          intro _
          refine mjZ_y rfl rfl 3 _ _ _ _ ty5 ?_
          refine (And.intro (Nat.le_of_ble_eq_true rfl) (And.intro rfl (And.intro (Nat.le_of_ble_eq_true rfl) (And.intro (Nat.le_of_ble_eq_true rfl) (mjY_mono ty5 (fun q_ u6 ty6 h_ => ?_) (w_number h5 ty5 _))))))
          obtain ⟨rfl, h6, f6⟩ := h_
          intro _
          refine mjZ_y rfl rfl 2 _ _ _ _ ty6 ?_
          refine And.intro rfl (And.intro rfl ?_)
          have fa := f3.tr f4.t
          rw [ntA_fr fa] at h6
          exact ⟨rfl, (fa.tr f5.n).tr f6.c, _, h6, by rw [g0]; exact strip_up rfl⟩
        · have r : y.2.2.2.1 = 0 := etm.symm.trans (Decidable.of_not_not r)
          exact no (by rw [eo, if_pos r])
  · have a : i1 = 24 := Decidable.of_not_not (fun z => a ((nn 24 (by decide)).mpr z))
    rw [if_neg (by omega)]
    have s58 : ∀ z : Int64, mjY mjPP (mjQQ Y) (d + 6) 100 58 [some (.ref 0), some (.int x1), some (.int x2), some (.long z), none] [] u1 (cmdK u1 ws ks l i1 none) := by
      intro z
      refine mjZ_y rfl rfl 3 _ _ _ _ ty1 ?_
      refine (And.intro (Nat.le_of_ble_eq_true rfl) (And.intro rfl (And.intro (Nat.le_of_ble_eq_true rfl) (And.intro (Nat.le_of_ble_eq_true rfl) (mjY_mono ty1 (fun q_ u2 ty2 h_ => ?_) (w_plain h ty1 _))))))
      obtain ⟨rfl, h2, f2⟩ := h_
      intro _
      refine mjZ_y rfl rfl 2 _ _ _ _ ty2 ?_
      refine And.intro rfl (And.intro rfl ?_)
      exact ⟨rfl, f2.c, ks, h2, rfl⟩
    have s48 : ∀ z : Int64, mjY mjPP (mjQQ Y) (d + 6) 100 48 [some (.ref 0), some (.int x1), some (.int x2), some (.long z), none] [] u1 (cmdK u1 ws ks l i1 none) := by
      intro z
      refine mjZ_y rfl rfl 2 _ _ _ _ ty1 ?_
      refine And.intro (fun q => ?_) (fun q => ?_)
      · exact s58 _
      · refine mjZ_y rfl rfl 6 _ _ _ _ ty1 ?_
        refine (And.intro rfl (And.intro rfl (And.intro (vk q) (And.intro (fun r => ?_) (fun r => ?_)))))
        · exact s58 _
        · refine mjZ_y rfl rfl 2 _ _ _ _ ty1 ?_
          refine (And.intro (Nat.le_of_ble_eq_true rfl) ?_)
          exact s58 _
    have s38 : ∀ z : Int64, mjY mjPP (mjQQ Y) (d + 6) 100 38 [some (.ref 0), some (.int x1), some (.int x2), some (.long z), none] [] u1 (cmdK u1 ws ks l i1 none) := by
      intro z
      refine mjZ_y rfl rfl 2 _ _ _ _ ty1 ?_
      refine And.intro (fun q => ?_) (fun q => ?_)
      · exact s48 _
      · refine mjZ_y rfl rfl 6 _ _ _ _ ty1 ?_
        refine (And.intro rfl (And.intro rfl (And.intro (vk q) (And.intro (fun r => ?_) (fun r => ?_)))))
        · exact s48 _
        · refine mjZ_y rfl rfl 2 _ _ _ _ ty1 ?_
          refine (And.intro (Nat.le_of_ble_eq_true rfl) ?_)
          exact s48 _
    have s28 : ∀ z : Int64, mjY mjPP (mjQQ Y) (d + 6) 100 28 [some (.ref 0), some (.int x1), some (.int x2), some (.long z), none] [] u1 (cmdK u1 ws ks l i1 none) := by
      intro z
      refine mjZ_y rfl rfl 2 _ _ _ _ ty1 ?_
      refine And.intro (fun q => ?_) (fun q => ?_)
      · exact s38 _
      · refine mjZ_y rfl rfl 6 _ _ _ _ ty1 ?_
        refine (And.intro rfl (And.intro rfl (And.intro (vk q) (And.intro (fun r => ?_) (fun r => ?_)))))
        · exact s38 _
        · refine mjZ_y rfl rfl 2 _ _ _ _ ty1 ?_
          refine (And.intro (Nat.le_of_ble_eq_true rfl) ?_)
          exact s38 _
    have s18 : ∀ z : Int64, mjY mjPP (mjQQ Y) (d + 6) 100 18 [some (.ref 0), some (.int x1), some (.int x2), some (.long z), none] [] u1 (cmdK u1 ws ks l i1 none) := by
      intro z
      refine mjZ_y rfl rfl 2 _ _ _ _ ty1 ?_
      refine And.intro (fun q => ?_) (fun q => ?_)
      · exact s28 _
      · refine mjZ_y rfl rfl 6 _ _ _ _ ty1 ?_
        refine (And.intro rfl (And.intro rfl (And.intro (vk q) (And.intro (fun r => ?_) (fun r => ?_)))))
        · exact s28 _
        · refine mjZ_y rfl rfl 2 _ _ _ _ ty1 ?_
          refine (And.intro (Nat.le_of_ble_eq_true rfl) ?_)
          exact s28 _
    refine mjZ_y rfl rfl 4 _ _ _ _ ty1 ?_
    refine (And.intro (Nat.le_of_ble_eq_true rfl) (And.intro (fun q => ?_) (fun q => ?_)))
    · exact s18 _
    · refine mjZ_y rfl rfl 5 _ _ _ _ ty1 ?_
      refine (And.intro rfl (And.intro rfl (And.intro (vk q) (And.intro (fun r => ?_) (fun r => ?_)))))
      · exact s18 _
      · refine mjZ_y rfl rfl 2 _ _ _ _ ty1 ?_
        refine (And.intro (Nat.le_of_ble_eq_true rfl) ?_)
        exact s18 _
end RTEXT
