/-! send's loop over the requests of a line. -/
section SEND
variable {Y : Nat → MethodName × ByteArray} {d : Nat}
theorem tpI_le {I I' : Nat → Nat} (h : ∀ k, I' k ≤ I k) (c : Nat) : tpI c I' ≤ tpI c I := by
  have h0 := h 0; have h1 := h 1; have h2 := h 2; have h3 := h 3
  unfold tpI
  split <;> split <;> split <;> split <;> omega
theorem Wd.st {σ u : mjS} {ws ws' : List (List Int32)} {ks : List KR} {l : List Int32} (h : Wd σ ws ks l) (f : Fr stFs awH σ u) (a : AR u ws') : Wd u ws' ks l := by
  obtain ⟨⟨hs', fk, fe, k⟩, -, p, ⟨⟨n, hn, en⟩, -⟩, t⟩ := h
  exact ⟨⟨hs', fk, fe, k.fr f (by decide) (by decide)⟩, a, pnd_fr p f (by decide) (by decide), ⟨⟨n, hn, by rw [f.1 _ (by decide)]; exact en⟩, trivial⟩, t.fr f (by decide) (by decide) (by decide)⟩
theorem HI.fr {σ u : mjS} {fs hs : List Nat} {A : List AK} {P : Nat} (h : HI σ A P) (f : Fr fs hs σ u) (h1 : f_diskSize ∉ fs) (h2 : r_disk ∉ hs) : HI u A P := by
  obtain ⟨E, a, b⟩ := h
  exact ⟨E, a.fr f h1 h2, b⟩
/-- between two requests of a line, with so many bytes to come -/
def SI (σ : mjS) (c R : Nat) : Prop := ∃ ws ks l qe we ce I G P, Wd σ ws ks l ∧ CX σ qe we ce I G ∧ (TB σ ∧ σ.1 f_replays = 0 ∧ σ.1 f_inBlock = 0 ∧ 0 ≤ σ.2.1 f_now0 ∧ BU σ ∧ gG G) ∧ R + tp c I G ≤ P ∧ HI σ (strip ks) P ∧ (qe + 3 * (R + tpI c I) ≤ 200000 ∧ we + (R + tpI c I) ≤ 50000 ∧ ce + (R + tpI c I) ≤ 50000)
/-- the same, stopped -/
def SD (σ : mjS) (c R : Nat) : Prop := ∃ ws qe we ce I G P, Wd σ ws [] [] ∧ CX σ qe we ce I G ∧ (TB σ ∧ σ.1 f_replays = 0 ∧ σ.1 f_inBlock = 0 ∧ 0 ≤ σ.2.1 f_now0 ∧ BU σ ∧ gG G) ∧ R + tp c I G ≤ P ∧ HD σ P ∧ (qe + 3 * (R + tpI c I) ≤ 200000 ∧ we + (R + tpI c I) ≤ 50000 ∧ ce + (R + tpI c I) ≤ 50000) ∧ ∀ k, k < 4 → I k = 0
theorem SI.st {σ u : mjS} {c R : Nat} (h : SI σ c R) (f : Fr stFs awH σ u) {ws : Req} (a : AR u ws) : SI u c R := by
  obtain ⟨ws0, ks, l, qe, we, ce, I, G, P, h1, h2, ⟨t1, t2, t3, t4, t5, t6⟩, h3, h4, h5⟩ := h
  exact ⟨ws, ks, l, qe, we, ce, I, G, P, h1.st f a, h2.fr f (by decide) (by decide), ⟨t1.fr f (by decide), by rw [f.1 _ (by decide)]; exact t2, by rw [f.1 _ (by decide)]; exact t3, by rw [f.2.1 _ (by decide)]; exact t4, t5.fr f (by decide), t6⟩, h3, h4.fr f (by decide) (by decide), h5⟩
theorem SI.less {σ : mjS} {c R R' : Nat} (h : SI σ c R) (hr : R' ≤ R) : SI σ c R' := by
  obtain ⟨ws0, ks, l, qe, we, ce, I, G, P, h1, h2, h3, h4, h5, h6⟩ := h
  exact ⟨ws0, ks, l, qe, we, ce, I, G, P, h1, h2, h3, by omega, h5, by omega, by omega, by omega⟩
theorem nI_nn {q : Nat} (h : q < 2 ^ 30) : ¬ nI q < 0 := nI_pos (by omega)
abbrev snF : List Nat := f_lineNumber :: f_lineEnd :: f_faultWord :: dsF
set_option maxRecDepth 100000 in
theorem c_send_loop (K : mjK) {c s bud : Nat} (hc : c < 4) (hs : s ≤ 131200) (x1 x2 x3 x4 : Int32) (e3 : x3 = nI c) (e4 : x4 = nI s) : ∀ (j p : Nat) (σ : mjS) (x5 x6 x7 : Int32) (l8 : Option Value), s - p ≤ j → p ≤ s → x5 = nI p → mjTY σ → σ.1 f_cur = nI c → SI σ c (bud + (s - p)) →
    (∀ u p' x5 x6 x7 l8, mjTY u → Fr snF dsH σ u → u.1 f_up = σ.1 f_up → p' ≤ s → x5 = nI p' → SI u c (bud + (s - p')) → mjY mjPP (mjQQ Y) (d + 13) 173 137 [some (.ref 0), some (.int x1), some (.int x2), some (.int x3), some (.int x4), some (.int x5), some (.int x6), some (.int x7), l8] [] u K) →
    (∀ u, mjTY u → Fr snF dsH σ u → u.1 f_up = 0 → SD u c bud → K (some (.int (-1))) u) →
    mjY mjPP (mjQQ Y) (d + 13) 173 80 [some (.ref 0), some (.int x1), some (.int x2), some (.int x3), some (.int x4), some (.int x5), some (.int x6), some (.int x7), l8] [] σ K := by
  have v3 : vp_in x3 4 := by rw [e3]; exact vp_in_nI hc (by decide)
  intro j
  induction j with
  | zero =>
    intro p σ x5 x6 x7 l8 hj hp e5 ty ec hS hK hD
    refine mjZ_y rfl rfl 2 _ _ _ _ ty ?_
    refine And.intro (fun a => ?_) (fun a => ?_)
    · exact hK σ p _ _ _ _ ty Fr.rf rfl hp e5 hS
    · refine mjZ_y rfl rfl 5 _ _ _ _ ty ?_
      refine (And.intro rfl (And.intro (Or.inr rfl) (And.intro v3 (And.intro (fun b => ?_) (fun b => ?_)))))
      · exact hK σ p _ _ _ _ ty Fr.rf rfl hp e5 hS
      · refine mjZ_y rfl rfl 3 _ _ _ _ ty ?_
        refine And.intro (fun q => ?_) (fun q => ?_)
        · exact hK σ p _ _ _ _ ty Fr.rf rfl hp e5 hS
        · exact absurd (show x4 ≤ x5 by rw [e4, e5]; exact nI_le (by omega) (by omega)) q
  | succ j ih =>
    intro p σ x5 x6 x7 l8 hj hp e5 ty ec hS hK hD
    have ex : ∀ u (x6 : Int32) (l8 : Option Value), mjTY u → Fr snF dsH σ u → u.1 f_up = σ.1 f_up → SI u c (bud + (s - p)) → mjY mjPP (mjQQ Y) (d + 13) 173 80 [some (.ref 0), some (.int x1), some (.int x2), some (.int x3), some (.int x4), some (.int x5), some (.int x6), some (.int (Int32.ofInt 0)), l8] [] u K := by
      intro u x6 l8 tu fu eu su
      refine mjZ_y rfl rfl 2 _ _ _ _ tu ?_
      refine And.intro (fun a => ?_) (fun a => ?_)
      · exact hK u p _ _ _ _ tu fu eu hp e5 su
      · exact absurd (show Int32.ofInt 0 = 0 from rfl) a
    refine mjZ_y rfl rfl 2 _ _ _ _ ty ?_
    refine And.intro (fun a => ?_) (fun a => ?_)
    · exact hK σ p _ _ _ _ ty Fr.rf rfl hp e5 hS
    refine mjZ_y rfl rfl 5 _ _ _ _ ty ?_
    refine (And.intro rfl (And.intro (Or.inr rfl) (And.intro v3 (And.intro (fun b => ?_) (fun b => ?_)))))
    · exact hK σ p _ _ _ _ ty Fr.rf rfl hp e5 hS
    refine mjZ_y rfl rfl 3 _ _ _ _ ty ?_
    refine And.intro (fun q => ?_) (fun q => ?_)
    · exact hK σ p _ _ _ _ ty Fr.rf rfl hp e5 hS
    have hps : p < s := Nat.lt_of_not_le (fun z => q (show x4 ≤ x5 by rw [e4, e5]; exact nI_le (by omega) (by omega)))
    refine c_send_p (d := d + 11) K hps hs _ _ _ _ _ _ _ l8 e4 e5 ty (fun u x8 tu fu k => ?_)
    have fsu : Fr snF dsH σ u := fu.up (by decide) (by decide)
    have eup : u.1 f_up = σ.1 f_up := fu.1 _ (by decide)
    rcases k with ⟨e8, ws, a1⟩ | ⟨e8, ws, a1⟩ | ⟨q, ws, e8, h1, h2, h3, h4, h5⟩
    · subst e8
      have su := hS.st fu a1
      refine mjZ_y rfl rfl 3 _ _ _ _ tu ?_
      refine And.intro (fun w => ?_) (fun w => ?_)
      · exact absurd (show (-1 : Int32) = Int32.ofInt (-1) from rfl) w
      · refine mjZ_y rfl rfl 4 _ _ _ _ tu ?_
        refine (And.intro (Nat.le_of_ble_eq_true rfl) ?_)
        exact ex u _ _ tu fsu eup su
    · subst e8
      have su := hS.st fu a1
      obtain ⟨ws0, ks, l, qe, we, ce, I, G, P, g1, g2, ⟨t1, t2, t3, t4, t5, t6⟩, g3, g4, g5⟩ := su
      refine mjZ_y rfl rfl 3 _ _ _ _ tu ?_
      refine And.intro (fun w => ?_) (fun w => ?_)
      · refine mjZ_y rfl rfl 3 _ _ _ _ tu ?_
        refine And.intro (fun z => ?_) (fun z => ?_)
        · exact absurd (show (-2 : Int32) = (Int8.ofInt (-2)).toInt32 from rfl) z
        · refine mjZ_y rfl rfl 3 _ _ _ _ tu ?_
          refine (And.intro (Nat.le_of_ble_eq_true rfl) (And.intro rfl (And.intro (Nat.le_of_ble_eq_true rfl) (And.intro (Nat.le_of_ble_eq_true rfl) (mjY_mono tu (fun q_ v tv h_ => ?_) (c_tellFault (d := d + 7) g1 tu hc g2 e3))))))
          obtain ⟨rfl, fv, hv, I', G', xv, lv⟩ := h_
          intro _
          have tI := tpI_le lv.leI c
          have tG := lv.tpl c
          refine mjZ_y rfl rfl 4 _ _ _ _ tv ?_
          refine (And.intro (Nat.le_of_ble_eq_true rfl) ?_)
          exact ex v _ _ tv (fsu.tr (fv.up (by decide) (by decide))) (by rw [fv.1 _ (by decide)]; exact eup) ⟨ws0, ks, l, qe, we, ce, I', G', P, hv, xv, ⟨t1.fr fv (by decide), by rw [fv.1 _ (by decide)]; exact t2, by rw [fv.1 _ (by decide)]; exact t3, by rw [fv.2.1 _ (by decide)]; exact t4, t5.fr fv (by decide), t6.cl lv⟩, by omega, g4.fr fv (by decide) (by decide), by omega, by omega, by omega⟩
      · exact absurd (show ¬ (-2 : Int32) = Int32.ofInt (-1) by decide) w
    · subst e8
      have su := hS.st fu h3
      have q31 : q < 2 ^ 30 := by omega
      refine mjZ_y rfl rfl 3 _ _ _ _ tu ?_
      refine And.intro (fun w => ?_) (fun w => ?_)
      · refine mjZ_y rfl rfl 3 _ _ _ _ tu ?_
        refine And.intro (fun z => ?_) (fun z => ?_)
        · have nx : ∀ v (x6 : Int32) (l8 : Option Value), mjTY v → Fr snF dsH σ v → v.1 f_up = σ.1 f_up → SI v c (bud + (s - q)) → mjY mjPP (mjQQ Y) (d + 13) 173 136 [some (.ref 0), some (.int x1), some (.int x2), some (.int x3), some (.int x4), some (.int (nI q)), some (.int x6), some (.int x7), l8] [] v K := by
            intro v x6 l8 tv fv ev sv
            refine mjZ_y rfl rfl 1 _ _ _ _ tv ?_
            exact ih q v _ _ _ _ (by omega) h2 rfl tv (by rw [fv.1 _ (by decide)]; exact ec) sv (fun u' p' y5 y6 y7 m8 tu' fu' eu' hp' e5' su' => hK u' p' y5 y6 y7 m8 tu' (fv.tr fu') (eu'.trans ev) hp' e5' su') (fun u' tu' fu' eu' su' => hD u' tu' (fv.tr fu') eu' su')
          refine mjZ_y rfl rfl 5 _ _ _ _ tu ?_
          refine (And.intro (Nat.le_of_ble_eq_true rfl) (And.intro rfl (And.intro (fun y => ?_) (fun y => ?_))))
          · exact nx u _ _ tu fsu eup (su.less (by omega))
          · have hw1 : 1 ≤ ws.length := Nat.succ_le_of_lt (Nat.pos_of_ne_zero (fun z0 => y (by show u.1 f_words ≤ 0; rw [h3.1, z0]; exact Int32.le_refl _)))
            obtain ⟨ws0, ks, l, qe, we, ce, I, G, P, g1, g2, ⟨t1, t2, t3, t4, t5, t6⟩, g3, ⟨E, d1, d2, d3, d4⟩, g5⟩ := hS
            have pre : dsPre u ws ks c qe we ce I G P (bud + (s - q)) (enE E) := ⟨⟨l, g1.st fu h3⟩, hc, by rw [fu.1 _ (by decide)]; exact ec, g2.fr fu (by decide) (by decide), t1.fr fu (by decide), by rw [fu.1 _ (by decide)]; exact t2, by rw [fu.1 _ (by decide)]; exact t3, by rw [fu.2.1 _ (by decide)]; exact t4, d3, by omega, t6, ⟨hw1, h5⟩, by omega, by omega, by omega, t5.fr fu (by decide), d1.fr fu (by decide) (by decide), by omega⟩
            refine mjZ_y rfl rfl 3 _ _ _ _ tu ?_
            refine (And.intro (Nat.le_of_ble_eq_true rfl) (And.intro rfl (And.intro (Nat.le_of_ble_eq_true rfl) (And.intro (Nat.le_of_ble_eq_true rfl) (mjY_mono tu (fun q_ v tv h_ => ?_) (c_does pre tu))))))
            obtain ⟨fv, bv, k⟩ := h_
            intro _
            have fsv : Fr snF dsH σ v := fsu.tr (fv.up (by decide) (by decide))
            have tv1 : TB v := t1.fr fsv (by decide)
            have tv2 : v.1 f_replays = 0 := by rw [fsv.1 _ (by decide)]; exact t2
            have tv4 : 0 ≤ v.2.1 f_now0 := by rw [fsv.2.1 _ (by decide)]; exact t4
            rcases k with ⟨rfl, k1, ws', ks', b', ns, qe', we', ce', I', G', P', a1, a2, a3, a4, a5, a6, a7, ⟨a81, a82, a83⟩, ⟨a91, a92, a93, a94⟩, a10, a11⟩ | ⟨rfl, k1, ws', B, b', ns, n, qe', we', ce', I', G', P', a1, a2, a3, a4, a5, a6, a7, ⟨a81, a82, a83⟩, ⟨a91, a92, a93, a94, z4⟩, a10, a11⟩
            · have tI := tpI_le a94 c
              refine mjZ_y rfl rfl 1 _ _ _ _ tv ?_
              refine And.intro (fun r => ?_) (fun r => ?_)
              · exact nx v _ _ tv fsv (k1.trans eup) ⟨ws', ks', [], qe', we', ce', I', G', P', a1, a3, ⟨tv1, tv2, a11, tv4, bv, a7⟩, a4, HI_app d2 d4 a93 a2 a5 a6 a10 a92, by omega, by omega, by omega⟩
              · exact absurd (show ¬ (1 : Int32) = 0 by decide) r
            · have tI := tpI_le a94 c
              refine mjZ_y rfl rfl 1 _ _ _ _ tv ?_
              refine And.intro (fun r => ?_) (fun r => ?_)
              · exact absurd rfl r
              · refine mjZ_y rfl rfl 2 _ _ _ _ tv ?_
                refine And.intro rfl (And.intro (Or.inl rfl) ?_)
                exact hD v tv fsv k1 ⟨ws', qe', we', ce', I', G', P', a1, a3, ⟨tv1, tv2, a11, tv4, bv, a7⟩, by omega, HD_app d2 d3 d4 a93 a2 a5 a6 a10 a92, ⟨by omega, by omega, by omega⟩, z4⟩
        · exact absurd (show ¬ nI q = (Int8.ofInt (-2)).toInt32 from fun e => nI_nn q31 (by rw [e]; decide)) z
      · exact absurd (show ¬ nI q = Int32.ofInt (-1) from fun e => nI_nn q31 (by rw [e]; decide)) w
end SEND
