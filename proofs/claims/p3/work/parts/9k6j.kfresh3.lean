/-! A key is made, and what is spelt stays. -/
section KFRESH3
variable {Y : Nat → MethodName × ByteArray} {d : Nat} {σ0 σ u : kS} {B ws nm nm' : List (List Int32)} {ks : List KC}
/-- the pot holds these words -/
def PTT (σ : kS) (nm ms : List (List Int32)) : Prop := ∃ g N, σ.2.2.1 71 4 = some g ∧ σ.2.2.2.1 g = (20, N) ∧ 64 ≤ N ∧ N ≤ 17400 ∧ σ.1 71 5 = nI ms.length ∧ ms.length ≤ N ∧ IDS (σ.1 g) nm ms
theorem PTT.fr (ty : kTY σ) (ow : OWN σ) {ms : List (List Int32)} (h : PTT σ nm ms) {vs : Bool} {fs os : List (Nat × Nat)} (ch : Ch vs fs os σ u) (hf : ∀ p ∈ fs, ¬ p.1 = 71) (ho : ∀ p ∈ os, p ∈ OWs ∧ ¬ p.1 = 71) : PTT u nm ms := by
  obtain ⟨g, N, h1, h2, h3, h4, h5, h6, h7⟩ := h
  have f : ∀ x, u.1 71 x = σ.1 71 x ∧ u.2.1 71 x = σ.2.1 71 x ∧ u.2.2.1 71 x = σ.2.2.1 71 x := fun x => ch.fld ty (c := 7) (by decide) rfl (by decide) (fun z => hf _ z rfl)
  obtain ⟨r1, r1', -⟩ := ch.row ty ow (fun p hp => (ho p hp).1) (p := (71, 4)) (by decide) (fun z => (ho _ z).2 rfl) h1 h2 (by decide)
  exact ⟨g, N, by rw [(f 4).2.2]; exact h1, r1, h3, h4, (f 5).1.trans h5, h6, by rw [r1']; exact h7⟩
theorem PTT.mono {ms : List (List Int32)} (h : PTT σ nm ms) (p : PRE nm nm') : PTT σ nm' ms := by
  obtain ⟨g, N, h1, h2, h3, h4, h5, h6, h7⟩ := h
  refine ⟨g, N, h1, h2, h3, h4, h5, h6, fun i q hq => ?_⟩
  obtain ⟨k, k1, k2⟩ := h7 i q hq
  exact ⟨k, k1, p.get k2⟩
def kbK (σ u : kS) : Prop := (∀ b l, b ∈ ANn → kBY σ b l → kBY u b l) ∧ ∀ nm ms, PTT σ nm ms → PTT u nm ms
theorem kbK.rf : kbK σ σ := ⟨fun _ _ _ h => h, fun _ _ h => h⟩
theorem kb_ch (ty : kTY σ) (ow : OWN σ) {vs : Bool} {fs os : List (Nat × Nat)} (ch : Ch vs fs os σ u) (hf : ∀ p ∈ fs, p ∈ stKf) (ho : ∀ p ∈ os, p ∈ stKo) : kbK σ u := by
  have hs : ∀ p ∈ stKo, p ∈ kcO := by decide +kernel
  have h1 : ∀ p ∈ stKf, p.1 = 59 := by decide
  have h2 : ∀ p ∈ stKo, p.1 = 59 := by decide
  refine ⟨fun b l hb hl => ?_, fun nm ms h => ?_⟩
  · exact hl.fr ty ow (ANn_b b hb).1 ch (fun p hp e => stK_n b hb p (Or.inl (hf p hp)) e) (fun p hp => ⟨kcO_in p (hs p (ho p hp)), fun e => stK_n b hb p (Or.inr (ho p hp)) e⟩)
  · exact h.fr ty ow ch (fun p hp e => by rw [h1 p (hf p hp)] at e; exact absurd e (by decide)) (fun p hp => ⟨kcO_in p (hs p (ho p hp)), fun e => by rw [h2 p (ho p hp)] at e; exact absurd e (by decide)⟩)
def frQ (σ0 : kS) (B : List (List Int32)) (σ : kS) (ws nm : List (List Int32)) (ks : List KC) (v : List Int32) (s : Nat) : kK := fun r u => frP σ0 B σ ws nm ks v s r u ∧ kbK σ u
set_option maxHeartbeats 1000000 in
theorem kx_fresh3 (ty : kTY σ) (w : KWd σ0 B σ ws nm ks) {k : Nat} {v : List Int32} (hk : nm[k]? = some v) {s : Nat} (hs4 : s ≤ 4) (hcap : kyI (skA ks) v = none → ks.length + 1 ≤ 2600) (x1 x2 : Int32) (e1 : x1 = nI k) (e2 : x2 = nI s) :
    kjY kPP (kQQ Y) (d + 4) 131 0 (mjL0 5 [.ref 59, .int x1, .int x2]) [] σ (frQ σ0 B σ ws nm ks v s) := by
  obtain ⟨fr, vs, hR, hV⟩ := w.2.2.2.2.1
  have hw := w.2.2.1.1
  have ow := w.2.1.1
  have po := w.2.1.2
  have hRo := hR
  have hnd := hR.nd
  obtain ⟨ri, rs, rh, NK, rt, NT, rn, Nn, te, rc, NC, rm, Nm, ce, ls, hG⟩ := hR
  have i1 := hG.1.1.1
  obtain ⟨b1, b2, b3, b4, b5⟩ := hG.2.2.2.1.1
  obtain ⟨b6, b6b, b6c⟩ := hG.2.2.2.1.2.1
  rw [List.length_map] at b1 b3
  rw [List.length_append, List.length_map] at b6
  have hvb := hw.b8 ty hk
  have ple : plF (anm (skA ks)) v ≤ ks.length := by have := plF_le (anm (skA ks)) v; rw [anm_len, skA_len] at this; exact this
  -- what comes of the last stage
  have sto : ∀ {u : kS} {vs fs os}, Ch vs fs os σ u → (∀ p ∈ fs, p ∈ stKf) → (∀ p ∈ os, p ∈ stKo) → OWN u → POT u → KW0 σ0 B u ws nm ∧ SCl scA σ u ∧ kbK σ u := fun hc h1 h2 o p => ⟨(w.k0.sto ty hc h1 h2 o p).1, (w.k0.sto ty hc h1 h2 o p).2, kb_ch ty w.2.1.1 hc h1 h2⟩
  refine kjZ_y rfl rfl 8 _ _ _ _ ty ?_
  refine (And.intro (ty.k (by decide) rfl) (And.intro (ty.k (by decide) rfl) (Exists.intro _ (And.intro i1 (And.intro (ty.k (by decide) rfl) (And.intro (Nat.le_of_ble_eq_true rfl) (And.intro (Or.inl ⟨(Nat.le_of_ble_eq_true rfl), (ty.k (by decide) rfl)⟩) (And.intro (Nat.le_of_ble_eq_true rfl) (And.intro (Nat.le_of_ble_eq_true rfl) (kjY_mono ty (fun q_ u1 ty1 xu1 h_ => ?_) (kx_findId ty hw hRo hV hk _ _ i1 rfl e1)))))))))))
  obtain ⟨rfl, rfl⟩ := h_
  intro _ _
  rcases fd_cases hV.2.2 (hV.nb ty1 hw) hvb with ⟨f1, f2⟩ | ⟨P, y, Q, f1, f2, f3, f4⟩
  · -- there is none
    have hcp := hcap f2
    have hneg : fdR (anm (skA ks)) v < 0 := by
      rw [f1, Int32.lt_iff_toInt_lt, Int32.toInt_sub, nI_toInt (by omega), show ((-1 : Int32)).toInt = -1 by decide]
      rw [Int.bmod_eq_of_le (by omega) (by omega)]; show _ < (0 : Int); omega
    have epl : Int32.ofInt (-1) - fdR (anm (skA ks)) v = nI (plF (anm (skA ks)) v) := by
      rw [f1]
      have : ∀ a b : Int32, a - (a - b) = b := fun a b => by
        rw [Int32.sub_eq_add_neg, Int32.neg_sub, Int32.sub_eq_add_neg, ← Int32.add_assoc, Int32.add_comm a b, Int32.add_assoc, ← Int32.sub_eq_add_neg a a, Int32.sub_self, Int32.add_zero]
      exact this _ _
    obtain ⟨p, ep⟩ : ∃ p, p = plF (anm (skA ks)) v := ⟨_, rfl⟩
    rw [← ep] at epl ple
    refine kjZ_y rfl rfl 3 _ _ _ _ ty1 ?_
    refine (And.intro (Nat.le_of_ble_eq_true rfl) (And.intro (fun c => ?_) (fun c => ?_)))
    · exact absurd hneg (Int32.not_lt.mpr c)
    -- from the entering on
    have enter : ∀ (y : kS) (vs' : List VR) (s0 : Nat) (fr' : List Nat) (x3 : Int32), x3 = nI p → kTY y → OWN y → POT y → RST y (ks.map (fun x => x.2.1)) (ks.map (fun x => x.2.2.1) ++ s0 :: fr') vs' (cSum ks) (tSum ks) → STV nm ks (s0 :: fr') vs' → Ch true frF frO u1 y → kjY kPP (kQQ Y) (d + 4) 131 22 [some (.ref 59), some (.int x1), some (.int x2), some (.int x3), none] [] y (frQ σ0 B u1 ws nm ks v s) := by
      intro y vs' s0 fr' x3 e3 tyy owy poy hy hV' chy
      have hndy := hy.nd
      obtain ⟨r0, a1, a2, a3, a4, -⟩ := hV'.2.1 s0 List.mem_cons_self
      refine kjZ_y rfl rfl 4 _ _ _ _ tyy ?_
      refine (And.intro (Nat.le_of_ble_eq_true rfl) (And.intro (Or.inl ⟨(Nat.le_of_ble_eq_true rfl), (tyy.k (by decide) rfl)⟩) (And.intro (Nat.le_of_ble_eq_true rfl) (And.intro (Nat.le_of_ble_eq_true rfl) (kjY_mono tyy (fun q_ u2 ty2 xu2 h_ => ?_) (k_enter tyy owy poy hy (by rw [List.length_map, List.length_map]) (p := p) (k := k) (by rw [List.length_map]; exact ple) _ _ e3 e1))))))
      obtain ⟨rfl, q1, q2, q3, q4⟩ := h_
      intro _ _
      obtain ⟨v0, k0, n0, w0, c0, e0, t0, cs0⟩ := r0
      have a2 : n0 = 0 := a2
      have a3 : c0 = 0 := a3
      have a4 : e0 = NEV := a4
      have hsp : (insL (ks.map (fun x => x.2.2.1)) p s0 ++ fr')[p]? = some s0 := by
        rw [List.getElem?_append_left (by rw [insL_len, List.length_map]; omega), insL_get (by rw [List.length_map]; exact ple), if_neg (Nat.lt_irrefl p), if_pos rfl]
      have kf := k_fresh2 (Y := Y) (d := d + 2) ty1 ty2 q2 q3 q1 hsp a1 hs4 (Ch.tr ty1 frO_in chy (q4.up (fun _ => rfl) (by decide) (by decide))) x1 x2 x3 e2 e3
      refine kjY_mono ty2 (fun r u _ _ z => ?_) kf
      obtain ⟨rfl, z1, z2, z3, z4⟩ := z
      obtain ⟨m1, m2, m3⟩ := sto z4 (by decide) (by decide) z2 z3
      have eil : insL (ks.map (fun x => x.2.1)) p k = (ks.take p ++ ((v0, k, s0, 0, c0, (v, nI s, 0, 0, [], [])) : KC) :: ks.drop p).map (fun x => x.2.1) := by
        unfold insL; rw [List.map_append, List.map_cons, List.map_take, List.map_drop]
      have esl : insL (ks.map (fun x => x.2.2.1)) p s0 = (ks.take p ++ ((v0, k, s0, 0, c0, (v, nI s, 0, 0, [], [])) : KC) :: ks.drop p).map (fun x => x.2.2.1) := by
        unfold insL; rw [List.map_append, List.map_cons, List.map_take, List.map_drop]
      have ens : kyI (skA ks) v = none := f2
      refine ⟨⟨ks.take p, (v0, k, s0, 0, c0, (v, nI s, 0, 0, [], [])), ks.drop p, rfl, m1.mk ⟨fr', vs'.set s0 (v0, s, 0, 0, c0, NEV, [], emC s), ?_, ?_⟩, m2, rfl, rfl, hk, Or.inr ⟨(List.take_append_drop p ks).symm, f2, by rw [List.length_take]; omega, a3⟩⟩, m3⟩
      · rw [← eil, ← esl]
        have ec : cSum (ks.take p ++ ((v0, k, s0, 0, c0, (v, nI s, 0, 0, [], [])) : KC) :: ks.drop p) = cSum ks := by
          conv => rhs; rw [← List.take_append_drop p ks]
          rw [cSum_app, cSum_app]; show _ + (c0 + _) = _; rw [a3, Int32.zero_add]
        have et : tSum (ks.take p ++ ((v0, k, s0, 0, c0, (v, nI s, 0, 0, [], [])) : KC) :: ks.drop p) = tSum ks + (nvI NEV - nvI e0) := by
          conv => rhs; rw [← List.take_append_drop p ks]
          rw [tSum_app, tSum_app, a4, Int32.sub_self, Int32.add_zero]
          show _ + (nvI NEV + _) = _
          rw [show nvI NEV = 0 from rfl, Int32.zero_add]
        rw [ec, et]; exact z1
      · have ne : ∀ x ∈ ks, ¬ x.2.2.1 = s0 := fun x hx z => by
          rw [List.nodup_append] at hndy
          exact hndy.2.2 _ (List.mem_map.mpr ⟨x, hx, rfl⟩) _ List.mem_cons_self z
        have nef : ∀ q ∈ fr', ¬ q = s0 := fun q hq z => by
          rw [List.nodup_append] at hndy
          exact (List.nodup_cons.mp hndy.2.1).1 (z ▸ hq)
        have old : ∀ {t : Nat} {q : VR}, ¬ t = s0 → vs'[t]? = some q → (vs'.set s0 (v0, s, 0, 0, c0, NEV, [], emC s))[t]? = some q := fun z e => by rw [List.getElem?_set, if_neg (fun y => z y.symm)]; exact e
        refine ⟨fun x hx => ?_, fun q hq => ?_, ?_⟩
        · have oth : x ∈ ks → ∃ r, (vs'.set s0 (v0, s, 0, 0, c0, NEV, [], emC s))[x.2.2.1]? = some r ∧ r.1 = x.1 ∧ r.2.2.2.1 = x.2.2.2.1 ∧ r.2.2.2.2.1 = x.2.2.2.2.1 ∧ AV nm r x.2.2.2.2.2 ∧ nm[x.2.1]? = some x.2.2.2.2.2.1 := fun hx => by
            obtain ⟨r, c1, c2⟩ := hV'.1 x hx
            exact ⟨r, old (ne x hx) c1, c2⟩
          rcases List.mem_append.mp hx with z | z
          · exact oth (List.mem_of_mem_take z)
          · rcases List.mem_cons.mp z with z | z
            · subst z
              exact ⟨(v0, s, 0, 0, c0, NEV, [], emC s), by show (vs'.set s0 _)[s0]? = _; rw [List.getElem?_set, if_pos rfl, if_pos (List.getElem?_eq_some_iff.mp a1).1], rfl, rfl, rfl, AV_em hs4, hk⟩
            · exact oth (List.mem_of_mem_drop z)
        · obtain ⟨r, c1, c2⟩ := hV'.2.1 q (List.mem_cons_of_mem _ hq)
          exact ⟨r, old (nef q hq) c1, c2⟩
        · have e : anm (skA (ks.take p ++ ((v0, k, s0, 0, c0, (v, nI s, 0, 0, [], [])) : KC) :: ks.drop p)) = (anm (skA ks)).take p ++ v :: (anm (skA ks)).drop p := by
            unfold anm skA; rw [List.map_append, List.map_cons, List.map_append, List.map_cons, List.map_take, List.map_take, List.map_drop, List.map_drop]
          rw [e, ep]
          refine SRN_ins hV'.2.2 (fun q hq => ?_)
          exact kyI_hn f2 q hq
    refine kjZ_y rfl rfl 9 _ _ _ _ ty1 ?_
    refine (And.intro (Nat.le_of_ble_eq_true rfl) (And.intro (ty1.k (by decide) rfl) (And.intro (ty1.k (by decide) rfl) (And.intro (fun c2 => ?_) (fun c2 => ?_)))))
    · -- a slot is free
      have c2 : ¬ u1.1 59 13 = u1.1 59 6 := c2
      rw [b1, b2] at c2
      cases fr with
      | nil => exact absurd (by rw [show vs.length = ks.length by have : ([] : List Nat).length = 0 := rfl; omega]) c2
      | cons s0 fr' => exact enter u1 vs s0 fr' _ epl ty1 ow po hRo hV Ch.rf
    · have c2 : u1.1 59 13 = u1.1 59 6 := Decidable.not_not.mp c2
      rw [b1, b2] at c2
      have hlen : ks.length = vs.length := (nI_eq (by omega) (by omega)).mp c2
      have hfr : fr = [] := List.length_eq_zero_iff.mp (by omega)
      subst hfr
      refine kjZ_y rfl rfl 2 _ _ _ _ ty1 ?_
      refine (And.intro (Nat.le_of_ble_eq_true rfl) (And.intro (Or.inl ⟨(Nat.le_of_ble_eq_true rfl), (ty1.k (by decide) rfl)⟩) (And.intro (Nat.le_of_ble_eq_true rfl) (And.intro (Nat.le_of_ble_eq_true rfl) (kjY_mono ty1 (fun q_ u2 ty2 xu2 h_ => ?_) (k_addValue ty1 ow po hRo (by omega)))))))
      obtain ⟨rfl, g, q1, q2, q3, q4⟩ := h_
      intro _ _
      rw [List.append_nil] at q1
      have hVn : STV nm ks [vs.length] (vs ++ [nwV g]) := by
        obtain ⟨g1, g2, g3⟩ := hV
        refine ⟨fun x hx => ?_, fun q hq => ?_, g3⟩
        · obtain ⟨r, c1, c2⟩ := g1 x hx
          exact ⟨r, by rw [List.getElem?_append_left (List.getElem?_eq_some_iff.mp c1).1]; exact c1, c2⟩
        · rw [List.mem_singleton.mp hq]
          exact ⟨nwV g, by rw [List.getElem?_append_right (Nat.le_refl _), Nat.sub_self]; rfl, rfl, rfl, rfl, rfl⟩
      exact enter u2 _ vs.length [] _ epl ty2 q2 q3 q1 hVn (q4.up (fun _ => rfl) (by decide) (by decide))
  · -- there is one
    have hPl : P.length < ks.length := by rw [f1, List.length_append, List.length_cons]; omega
    obtain ⟨r0, a1, a2, a3, a4, a5, a6⟩ := hV.1 y (by rw [f1]; exact List.mem_append_right _ List.mem_cons_self)
    have hsp : (ks.map (fun x => x.2.2.1) ++ fr)[P.length]? = some y.2.2.1 := by
      rw [List.getElem?_append_left (by rw [List.length_map]; exact hPl), List.getElem?_map, f1, List.getElem?_append_right (Nat.le_refl _), Nat.sub_self]; rfl
    refine kjZ_y rfl rfl 3 _ _ _ _ ty1 ?_
    refine (And.intro (Nat.le_of_ble_eq_true rfl) (And.intro (fun c => ?_) (fun c => ?_)))
    rotate_left
    · exact absurd (show (0 : Int32) ≤ fdR (anm (skA ks)) v by rw [f4]; exact nI_le (a := 0) (Nat.zero_le _) (by omega)) c
    obtain ⟨v0, k0, n0, w0, c0, e0, t0, cs0⟩ := r0
    have a2 : v0 = y.1 := a2
    have a4 : c0 = y.2.2.2.2.1 := a4
    have a5e : e0 = endE y.2.2.2.2.2 := a5.2.2.1
    have kf := k_fresh2 (Y := Y) (d := d + 2) ty1 ty1 ow po hRo hsp a1 hs4 Ch.rf x1 x2 (fdR (anm (skA ks)) v) e2 f4
    refine kjY_mono ty1 (fun r u _ _ z => ?_) kf
    obtain ⟨rfl, z1, z2, z3, z4⟩ := z
    obtain ⟨m1, m2, m3⟩ := sto z4 (by decide) (by decide) z2 z3
    subst f1
    have hmp := ks_maps (P := P) (Q := Q) (x := y) (x' := (y.1, y.2.1, y.2.2.1, 0, y.2.2.2.2.1, (v, nI s, 0, 0, [], []))) ⟨rfl, rfl⟩
    refine ⟨⟨P, (y.1, y.2.1, y.2.2.1, 0, y.2.2.2.2.1, (v, nI s, 0, 0, [], [])), Q, by rw [a2], m1.mk ⟨fr, _, ?_, hV.upd hnd ⟨rfl, rfl, rfl, f2.symm⟩ ⟨a2, rfl, a4, AV_em hs4⟩⟩, m2, rfl, rfl, by rw [← f2]; exact a6, Or.inl ⟨y, rfl, f2, f3, rfl⟩⟩, m3⟩
    rw [hmp.1, hmp.2]
    have ec : cSum (P ++ ((y.1, y.2.1, y.2.2.1, 0, y.2.2.2.2.1, (v, nI s, 0, 0, [], [])) : KC) :: Q) = cSum (P ++ y :: Q) := by rw [cSum_app, cSum_app]; rfl
    have et : tSum (P ++ ((y.1, y.2.1, y.2.2.1, 0, y.2.2.2.2.1, (v, nI s, 0, 0, [], [])) : KC) :: Q) = tSum (P ++ y :: Q) + (nvI NEV - nvI e0) := by
      rw [tSum_app, tSum_app, a5e]
      show tSum P + (nvI NEV + tSum Q) = tSum P + (nvI (endE y.2.2.2.2.2) + tSum Q) + (nvI NEV - nvI (endE y.2.2.2.2.2))
      rw [show nvI NEV = 0 from rfl, Int32.zero_add, Int32.zero_sub, Int32.add_assoc, Int32.add_assoc, Int32.add_comm (tSum Q), ← Int32.add_assoc (nvI _), ← Int32.sub_eq_add_neg, Int32.sub_self, Int32.zero_add]
    rw [ec, et]; exact z1
theorem kx_orMake2 (ty : kTY σ) (w : KWd σ0 B σ ws nm ks) {k : Nat} {v : List Int32} (hk : nm[k]? = some v) {s : Nat} (hs4 : s ≤ 4) (hcap : kyI (skA ks) v = none → ks.length + 1 ≤ 2600) (x1 x2 : Int32) (e1 : x1 = nI k) (e2 : x2 = nI s) :
    kjY kPP (kQQ Y) (d + 5) 132 0 (mjL0 4 [.ref 59, .int x1, .int x2]) [] σ (fun r u => (∃ P x Q, r = some (.ref x.1) ∧ KWd σ0 B u ws nm (P ++ x :: Q) ∧ SCl scA σ u ∧ x.2.2.2.2.2.1 = v ∧ ((ks = P ++ x :: Q ∧ kyI (skA ks) v = some P.length) ∨ (ks = P ++ Q ∧ kyI (skA ks) v = none ∧ P.length = plF (anm (skA ks)) v ∧ x.2.2.2.1 = 0 ∧ x.2.2.2.2.1 = 0 ∧ x.2.2.2.2.2 = (v, nI s, 0, 0, [], [])))) ∧ kbK σ u) := by
  refine kjZ_y rfl rfl 3 _ _ _ _ ty ?_
  refine (And.intro (Nat.le_of_ble_eq_true rfl) (And.intro (Or.inl ⟨(Nat.le_of_ble_eq_true rfl), (ty.k (by decide) rfl)⟩) (And.intro (Nat.le_of_ble_eq_true rfl) (And.intro (Nat.le_of_ble_eq_true rfl) (kjY_mono ty (fun q_ u3 ty3 xu3 h_ => ?_) (kx_find ty w hk _ e1))))))
  obtain ⟨rfl, q3⟩ := h_
  intro _ _
  rcases q3 with ⟨rfl, q3⟩ | ⟨P, y, Q, rfl, f0, f1, f2⟩
  · refine kjZ_y rfl rfl 3 _ _ _ _ ty3 ?_
    refine (And.intro (Nat.le_of_ble_eq_true rfl) ?_)
    refine kjZ_y rfl rfl 4 _ _ _ _ ty3 ?_
    refine (And.intro (Nat.le_of_ble_eq_true rfl) (And.intro (Or.inl ⟨(Nat.le_of_ble_eq_true rfl), (ty3.k (by decide) rfl)⟩) (And.intro (Nat.le_of_ble_eq_true rfl) (And.intro (Nat.le_of_ble_eq_true rfl) (kjY_mono ty3 (fun q_ u4 ty4 xu4 h_ => ?_) (kx_fresh3 ty3 w hk hs4 hcap _ _ e1 e2))))))
    obtain ⟨⟨P, x, Q, rfl, w4, s4, g1, g2, g3, g4⟩, kb4⟩ := h_
    intro _ _
    rcases g4 with ⟨y, g5, g6, g7, g8⟩ | ⟨g5, g6, g7, g8⟩
    · rw [q3] at g7; cases g7
    have kv4 : (u4.2.2.2.1 x.1).1 = 11 := by
      obtain ⟨k2, -, -, hd, -⟩ := w4.val rfl
      rw [hd]
    refine kjZ_y rfl rfl 2 _ _ _ _ ty4 ?_
    refine And.intro rfl (And.intro (Nat.le_of_ble_eq_true rfl) ?_)
    exact ⟨⟨P, x, Q, rfl, w4, s4, by rw [g2], Or.inr ⟨g5, q3, g7, g1, g8, g2⟩⟩, kb4⟩
  · subst f0
    have kv : (u3.2.2.2.1 y.1).1 = 11 := by
      obtain ⟨k2, -, -, hd, -⟩ := w.val rfl
      rw [hd]
    refine kjZ_y rfl rfl 3 _ _ _ _ ty3 ?_
    refine (And.intro (Nat.le_of_ble_eq_true rfl) ?_)
    refine kjZ_y rfl rfl 2 _ _ _ _ ty3 ?_
    refine And.intro rfl (And.intro (Nat.le_of_ble_eq_true rfl) ?_)
    exact ⟨⟨P, y, Q, rfl, w, SCl.rf, f1, Or.inl ⟨rfl, f2⟩⟩, kbK.rf⟩
end KFRESH3
