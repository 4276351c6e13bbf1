/-! rewrite. -/
section REWRITE
variable {Y : Nat → MethodName × ByteArray} {d : Nat}
theorem nI_rem {t m : Nat} (ht : t < 2 ^ 30) (hm : 1 ≤ m) (hm2 : m < 2 ^ 30) : nI t - nI t / nI m * nI m = nI (t % m) := by
  rw [pk_div (a := t) (d := m) (by omega) (by omega) (by omega), pk_mul, pk_sub (Nat.div_mul_le_self t m)]
  refine congrArg nI ?_
  have := Nat.div_add_mod t m
  rw [Nat.mul_comm] at this; omega
theorem pt_b (s : Int32) : 1 ≤ ptS s ∧ ptS s ≤ 1000 ∧ eaS s ≤ 2 ∧ 1 ≤ idS s ∧ idS s ≤ 105 := by
  unfold ptS eaS idS
  refine ⟨?_, ?_, ?_, ?_, ?_⟩ <;> (repeat' split) <;> decide
/-- what stays while a rewrite is told -/
def RWI (σ : mjS) (ws : Req) (ks : List KR) (l : List Int32) : Prop := Wd σ ws ks l ∧ TB σ ∧ σ.1 f_replays = 0 ∧ σ.1 f_inBlock = 0
theorem RWI.nt {σ u : mjS} {ws : Req} {ks : List KR} {l l' : List Int32} (h : RWI σ ws ks l) (f : Fr nF nH3 σ u) (w : Wd u ws ks l') : RWI u ws ks l' := ⟨w, h.2.1.fr f (by decide), by rw [f.1 _ (by decide)]; exact h.2.2.1, by rw [f.1 _ (by decide)]; exact h.2.2.2⟩
set_option maxRecDepth 100000 in
theorem c_rw_in (K : mjK) {ws : Req} {P Q : List KR} {x : KR} (hx : x.2.1.length ≤ 16384) (hE : ∀ y ∈ x.2.2.2.2.2.2, y.2.1.length ≤ 16384 ∧ y.2.2.1.length ≤ 16384) (hn : x.2.2.2.2.2.2.length ≤ 10000) (x1 x2 x3 x4 x5 x6 : Int32) (e2 : x2 = nI x.1) (e3 : x3 = nI (idS x.2.2.1)) (e4 : x4 = nI (eaS x.2.2.1)) (e5 : x5 = nI (ptS x.2.2.1)) (e6 : x6 = nI x.2.2.2.2.2.2.length) : ∀ (E2 E1 : List ER) (σ : mjS) (l : List Int32) (x7 x8 : Int32) (l9 : Option Value), x.2.2.2.2.2.2 = E1 ++ E2 → x8 = nx (ids E2) → x7 = nI E1.length → mjTY σ → RWI σ ws (P ++ x :: Q) l → l.length + (mbF x.2.2.1 x.2.1 x.2.2.2.2.2.2.length E1.length (E2.map (fun y => y.2))).length ≤ 380000 →
    (∀ (u : mjS) (x7 x8 : Int32) (l9 : Option Value), mjTY u → Fr nF nH3 σ u → RWI u ws (P ++ x :: Q) (l ++ mbF x.2.2.1 x.2.1 x.2.2.2.2.2.2.length E1.length (E2.map (fun y => y.2))) → mjY mjPP (mjQQ Y) (d + 5) 191 155 [some (.ref 0), some (.int x1), some (.int x2), some (.int x3), some (.int x4), some (.int x5), some (.int x6), some (.int x7), some (.int x8), l9] [] u K) →
    mjY mjPP (mjQQ Y) (d + 5) 191 108 [some (.ref 0), some (.int x1), some (.int x2), some (.int x3), some (.int x4), some (.int x5), some (.int x6), some (.int x7), some (.int x8), l9] [] σ K := by
  obtain ⟨p1, p2, p3, p4, p5⟩ := pt_b x.2.2.1
  have hm : x ∈ P ++ x :: Q := List.mem_append_right _ List.mem_cons_self
  intro E2
  induction E2 with
  | nil =>
    intro E1 σ l x7 x8 l9 hE2 e8 e7 ty h hl hK
    refine mjZ_y rfl rfl 2 _ _ _ _ ty ?_
    refine And.intro (fun c => ?_) (fun c => ?_)
    · refine hK σ _ _ _ ty Fr.rf ?_
      show RWI σ ws (P ++ x :: Q) (l ++ [])
      rw [List.append_nil]; exact h
    · exact absurd (lt_m1 e8) c
  | cons y E2 ih =>
    intro E1 σ l x7 x8 l9 hE2 e8 e7 ty h hl hK
    have e8 : x8 = nI y.1 := e8
    have hy : y ∈ x.2.2.2.2.2.2 := by rw [hE2]; exact List.mem_append_right _ List.mem_cons_self
    obtain ⟨hs0, hh0, ko0⟩ := h.1.kok hm
    have hx1 := ko0.1
    have v2 : vp_in x2 4700 := by rw [e2]; exact vp_in_nI hx1 (by decide)
    have hy1 := (ko0.2.2.2.2.2.2.2.2.2.2 y hy).1
    have hlen : E1.length + (E2.length + 1) = x.2.2.2.2.2.2.length := by rw [hE2, List.length_append]; rfl
    have em : mbF x.2.2.1 x.2.1 x.2.2.2.2.2.2.length E1.length ((y :: E2).map (fun y => y.2)) = (if E1.length % ptS x.2.2.1 = 0 then hdL (2 + eaS x.2.2.1 * min (ptS x.2.2.1) (x.2.2.2.2.2.2.length - E1.length)) (idS x.2.2.1) ++ wordL x.2.1 else []) ++ wordsL (tlE x.2.2.1 y.2) ++ mbF x.2.2.1 x.2.1 x.2.2.2.2.2.2.length (E1.length + 1) (E2.map (fun y => y.2)) := rfl
    rw [em] at hl hK
    rw [List.length_append, List.length_append] at hl
    have s144 : ∀ (u : mjS) (l1 : List Int32) (l9 : Option Value), mjTY u → Fr nF nH3 σ u → RWI u ws (P ++ x :: Q) l1 → l1 = l ++ (if E1.length % ptS x.2.2.1 = 0 then hdL (2 + eaS x.2.2.1 * min (ptS x.2.2.1) (x.2.2.2.2.2.2.length - E1.length)) (idS x.2.2.1) ++ wordL x.2.1 else []) → mjY mjPP (mjQQ Y) (d + 5) 191 144 [some (.ref 0), some (.int x1), some (.int x2), some (.int x3), some (.int x4), some (.int x5), some (.int x6), some (.int x7), some (.int x8), l9] [] u K := by
      intro u l1 l9 tu fu hu el
      have ll : l1.length = l.length + (if E1.length % ptS x.2.2.1 = 0 then hdL (2 + eaS x.2.2.1 * min (ptS x.2.2.1) (x.2.2.2.2.2.2.length - E1.length)) (idS x.2.2.1) ++ wordL x.2.1 else []).length := by rw [el, List.length_append]
      refine mjZ_y rfl rfl 4 _ _ _ _ tu ?_
      refine (And.intro (Nat.le_of_ble_eq_true rfl) (And.intro rfl (And.intro (Nat.le_of_ble_eq_true rfl) (And.intro (Nat.le_of_ble_eq_true rfl) (mjY_mono tu (fun q_ v tv h_ => ?_) (w_tellPlace hu.1 tu hy (hE y hy).1 (hE y hy).2 e2 e8 (by omega)))))))
      obtain ⟨rfl, fv, hv⟩ := h_
      intro _
      obtain ⟨hN, -, v8⟩ := W_next hv hE2 e8
      have rv := hu.nt fv hv
      refine mjZ_y rfl rfl 7 _ _ _ _ tv ?_
      refine (And.intro rfl (And.intro rfl (And.intro v8 (And.intro (Nat.le_of_ble_eq_true rfl) ?_))))
      have el1 : (E1 ++ [y]).length = E1.length + 1 := by rw [List.length_append]; rfl
      refine ih (E1 ++ [y]) v _ _ _ _ (by rw [hE2, List.append_assoc]; rfl) hN (by rw [e7, el1]; exact nI_1 _) tv rv (by rw [el1, List.length_append]; omega) (fun w y7 y8 m9 tw fw hw => ?_)
      refine hK w y7 y8 m9 tw ((fu.tr fv).tr fw) ?_
      rw [el1, el] at hw
      rw [← List.append_assoc, ← List.append_assoc]; exact hw
    have er : x7 - x7 / x5 * x5 = nI (E1.length % ptS x.2.2.1) := by rw [e7, e5]; exact nI_rem (by omega) p1 (by omega)
    refine mjZ_y rfl rfl 2 _ _ _ _ ty ?_
    refine And.intro (fun c => ?_) (fun c => ?_)
    · exact absurd (show x8 < 0 from c) (lt_nI (by omega) e8)
    have nz : ¬ x5 = 0 := by
      rw [e5]
      refine fun z => ?_
      have := (nI_eq (a := ptS x.2.2.1) (b := 0) (by omega) (by decide)).mp z; omega
    refine mjZ_y rfl rfl 4 _ _ _ _ ty ?_
    refine (And.intro nz (And.intro (fun q => ?_) (fun q => ?_)))
    · have q : ¬ E1.length % ptS x.2.2.1 = 0 := fun z => q (show x7 - x7 / x5 * x5 = 0 by rw [er, z]; rfl)
      refine s144 σ l l9 ty Fr.rf h ?_
      rw [if_neg q, List.append_nil]
    · have q : E1.length % ptS x.2.2.1 = 0 := by
        have z : x7 - x7 / x5 * x5 = nI 0 := Decidable.of_not_not q
        rw [er] at z
        have := Nat.mod_lt E1.length (show 0 < ptS x.2.2.1 by omega)
        exact (nI_eq (by omega) (by decide)).mp z
      have e9 : x6 - x7 = nI (x.2.2.2.2.2.2.length - E1.length) := by rw [e6, e7, pk_sub (by omega)]
      have s123 : ∀ (y9 : Int32), y9 = nI (min (ptS x.2.2.1) (x.2.2.2.2.2.2.length - E1.length)) → mjY mjPP (mjQQ Y) (d + 5) 191 123 [some (.ref 0), some (.int x1), some (.int x2), some (.int x3), some (.int x4), some (.int x5), some (.int x6), some (.int x7), some (.int x8), some (.int y9)] [] σ K := by
        intro y9 e9'
        have ek : Int32.ofInt 2 + x4 * y9 = nI (2 + eaS x.2.2.1 * min (ptS x.2.2.1) (x.2.2.2.2.2.2.length - E1.length)) := by
          rw [e4, e9', pk_mul, show Int32.ofInt 2 = nI 2 from rfl, nI_add]
        have kb : eaS x.2.2.1 * min (ptS x.2.2.1) (x.2.2.2.2.2.2.length - E1.length) ≤ 2 * 1000 := Nat.mul_le_mul p3 (by omega)
        refine mjZ_y rfl rfl 8 _ _ _ _ ty ?_
        refine (And.intro (Nat.le_of_ble_eq_true rfl) (And.intro rfl (And.intro (Nat.le_of_ble_eq_true rfl) (And.intro (Nat.le_of_ble_eq_true rfl) (mjY_mono ty (fun q_ u tu h_ => ?_) (w_noteB h.1 ty h.2.1 h.2.2.1 h.2.2.2 _ _ (by omega) p4 p5 ek e3 (by omega)))))))
        obtain ⟨⟨z, rfl⟩, fu, hu⟩ := h_
        intro _
        have ru := h.nt fu hu
        obtain ⟨hs, hh, ko⟩ := hu.kok hm
        obtain ⟨a, a1, a2, a3, a4⟩ := ko.2.1.clamp hh (by omega) e2
        have hl2 : (l ++ hdL (2 + eaS x.2.2.1 * min (ptS x.2.2.1) (x.2.2.2.2.2.2.length - E1.length)) (idS x.2.2.1)).length + (wordL x.2.1).length ≤ 380000 := by
          rw [if_pos q, List.length_append] at hl
          rw [List.length_append]; omega
        have hw0 : x.2.1.length + 5 ≤ (wordL x.2.1).length := by rw [wordL_l]; omega
        refine mjZ_y rfl rfl 13 _ _ _ _ tu ?_
        refine (And.intro rfl (And.intro rfl (And.intro rfl (And.intro v2 (And.intro rfl (And.intro rfl (And.intro v2 (And.intro (Nat.le_of_ble_eq_true rfl) (And.intro rfl (And.intro (Nat.le_of_ble_eq_true rfl) (And.intro (Nat.le_of_ble_eq_true rfl) (mjY_mono tu (fun q_ v tv h_ => ?_) (w_noteH (d := d + 2) hu tu a1 a2 a3 a4 (by omega))))))))))))))
        obtain ⟨rfl, fv, hv⟩ := h_
        intro _
        refine s144 v _ _ tv (fu.tr fv) (ru.nt fv hv) ?_
        rw [if_pos q, ← List.append_assoc]
      refine mjZ_y rfl rfl 4 _ _ _ _ ty ?_
      refine (And.intro (Nat.le_of_ble_eq_true rfl) ?_)
      refine mjZ_y rfl rfl 3 _ _ _ _ ty ?_
      refine And.intro (fun w => ?_) (fun w => ?_)
      · have w : x6 - x7 ≤ x5 := w
        rw [e9, e5] at w
        have w : x.2.2.2.2.2.2.length - E1.length ≤ ptS x.2.2.1 := Nat.le_of_not_lt (fun z => absurd w (nI_ge z (by omega)))
        exact s123 _ (by rw [e9]; exact congrArg nI (by omega))
      · have w : ¬ x.2.2.2.2.2.2.length - E1.length ≤ ptS x.2.2.1 := fun z => w (show x6 - x7 ≤ x5 by rw [e9, e5]; exact nI_le z (by omega))
        refine mjZ_y rfl rfl 2 _ _ _ _ ty ?_
        refine (And.intro (Nat.le_of_ble_eq_true rfl) ?_)
        exact s123 _ (by rw [e5]; exact congrArg nI (by omega))
end REWRITE
