/-! Keys: a fresh value for a key. -/
section KFRESH
variable {Y : Nat → MethodName × ByteArray} {d : Nat} {σ0 σ u : kS} {B ws nm : List (List Int32)} {ks : List KC}
/-- a value is emptied in its place -/
theorem VOK.zero {rt rc te ce v k n : Nat} {w c : Int32} {e : Int64} {t : List Int32} {cs : List (List Int64)} {l : Nat × Nat} (h : VOK σ rt rc te ce (v, k, n, w, c, e, t, cs) l) (hD : u.2.2.2.1 = σ.2.2.2.1) (hI : ∀ x, ¬ x = 4 → ¬ x = 6 → u.1 v x = σ.1 v x) (h4 : u.1 v 4 = 0) (h6 : u.1 v 6 = 0) (h3 : u.2.1 v 3 = σ.2.1 v 3) : VOK u rt rc te ce (v, k, 0, 0, c, e, [], emC k) l := by
  obtain ⟨⟨a1, a2, a3, a4, a5, a6, a7⟩, ⟨b1, b2, b3⟩, c1, c2, c3⟩ := h
  refine ⟨⟨by rw [hD]; exact a1, a2, (hI 1 (by decide) (by decide)).trans a3, (hI 2 (by decide) (by decide)).trans a4, h3.trans a5, h4, (hI 5 (by decide) (by decide)).trans a7⟩, ⟨h6, (hI 7 (by decide) (by decide)).trans b2, (hI 8 (by decide) (by decide)).trans b3⟩, Nat.zero_le _, fun z => ?_, fun z => ?_⟩
  · obtain ⟨d1, d2, d3, d4, d5⟩ := c2 z
    have z : k = 0 := z
    exact ⟨rfl, Or.inl (by subst z; rfl), d3, by rw [hD]; exact d4, rfl⟩
  · obtain ⟨d1, d2, d3, d4⟩ := c3 z
    refine ⟨rfl, Or.inl List.length_replicate, by rw [hD]; exact d3, fun p q hp => ?_⟩
    have := List.eq_of_mem_replicate (List.mem_of_getElem? hp)
    rw [this]; rfl
abbrev frF : List (Nat × Nat) := [(59, 3), (59, 4), (59, 5), (59, 6), (59, 13), (59, 14), (59, 15)]
abbrev frO : List (Nat × Nat) := [(59, 3), (59, 4), (59, 5), (59, 10)]
theorem frO_in : ∀ p ∈ frO, p ∈ OWs := by decide
/-- from the value on -/
theorem k_fresh2 {σ1 : kS} (ty1 : kTY σ1) (ty : kTY σ) (ow : OWN σ) (po : POT σ) {il sl : List Nat} {vs : List VR} {M T : Int32} (h : RST σ il sl vs M T) {p s v k n : Nat} {w c : Int32} {e : Int64} {t : List Int32} {cs : List (List Int64)} (hp : sl[p]? = some s) (hs : vs[s]? = some (v, k, n, w, c, e, t, cs)) {k' : Nat} (hk : k' ≤ 4) (ch : Ch true frF frO σ1 σ) (x1 x2 x3 : Int32) (e2 : x2 = nI k') (e3 : x3 = nI p) :
    kjY kPP (kQQ Y) (d + 2) 131 26 [some (.ref 59), some (.int x1), some (.int x2), some (.int x3), none] [] σ (fun q u => q = some (.ref v) ∧ RST u il sl (vs.set s (v, k', 0, 0, c, NEV, [], emC k')) M (T + (nvI NEV - nvI e)) ∧ OWN u ∧ POT u ∧ Ch true frF frO σ1 u) := by
  have ho := h
  obtain ⟨ri, rs, rh, NK, rt, NT, rn, Nn, te, rc, NC, rm, Nm, ce, ls, hG⟩ := h
  obtain ⟨l, hl, hV, g1, g2, g3, g4, g5, g6, g7⟩ := hG.v hs
  obtain ⟨⟨⟨i1, i2⟩, ⟨i3, i4⟩, ⟨i5, i6⟩, i7, i8⟩, a2, a3, ⟨⟨b1, b2, b3, b4, b5⟩, ⟨b6, b6b, b6c⟩, b7, b8, b9, b10⟩, a5, a6, a7⟩ := hG
  have hpl := (List.getElem?_eq_some_iff.mp hp).1
  have hsl := (List.getElem?_eq_some_iff.mp hs).1
  have v3 : vp_in x3 NK := by rw [e3]; exact vp_in_nI (by omega) (by omega)
  have es : σ.1 rs x3.toNatClampNeg = nI s := by rw [e3, nI_clamp (by omega)]; exact b8 p s hp
  have vs3 : vp_in (σ.1 rs x3.toNatClampNeg) NK := by rw [es]; exact vp_in_nI (by omega) (by omega)
  have ef : σ.2.2.1 rh (σ.1 rs x3.toNatClampNeg).toNatClampNeg = some v := by rw [es, nI_clamp (by omega)]; exact b9 s _ hs
  have hd : σ.2.2.2.1 v = (11, 0) := hV.1.1
  have kv : (σ.2.2.2.1 v).1 = 11 := by rw [hd]
  have ek : σ.1 v 1 = nI k := hV.1.2.2.1
  have hk4 : k ≤ 4 := hV.1.2.1
  have up1 : ∀ {fs os : List (Nat × Nat)} {y z : kS} {b : Bool}, Ch b fs os y z → (∀ p ∈ fs, p ∈ frF) → (∀ p ∈ os, p ∈ frO) → Ch true frF frO y z := fun hc h1 h2 => hc.up (fun _ => rfl) h1 h2
  -- from the end on
  have fin : ∀ y k1 n1 t1 cs1, k1 = k' → kTY y → OWN y → POT y → RST y il sl (vs.set s (v, k1, n1, w, c, e, t1, cs1)) M T → Ch true frF frO σ1 y → kjY kPP (kQQ Y) (d + 2) 131 41 [some (.ref 59), some (.int x1), some (.int x2), some (.int x3), some (.ref v)] [] y (fun q u => q = some (.ref v) ∧ RST u il sl (vs.set s (v, k', 0, 0, c, NEV, [], emC k')) M (T + (nvI NEV - nvI e)) ∧ OWN u ∧ POT u ∧ Ch true frF frO σ1 u) := by
    intro y k1 n1 t1 cs1 ek1 tyy owy poy hy chy
    subst ek1
    have hsy : (vs.set s (v, k1, n1, w, c, e, t1, cs1))[s]? = some (v, k1, n1, w, c, e, t1, cs1) := by rw [List.getElem?_set, if_pos rfl, if_pos hsl]
    have kvy : (y.2.2.2.1 v).1 = 11 := by
      obtain ⟨_, _, _, _, _, _, _, _, _, _, _, _, _, _, _, hG2⟩ := hy
      obtain ⟨_, _, hV2, -⟩ := hG2.v hsy
      rw [hV2.1.1]
    refine kjZ_y rfl rfl 4 _ _ _ _ tyy ?_
    refine (And.intro (Nat.le_of_ble_eq_true rfl) (And.intro (Or.inl ⟨(Nat.le_of_ble_eq_true rfl), (tyy.k (by decide) rfl)⟩) (And.intro (Nat.le_of_ble_eq_true rfl) (And.intro (Nat.le_of_ble_eq_true rfl) (kjY_mono tyy (fun q_ u2 ty2 xu2 h_ => ?_) (k_setEnds tyy owy poy hy hsy _))))))
    obtain ⟨rfl, q1, q2, q3, q4⟩ := h_
    intro _ _
    rw [List.set_set] at q1
    have hs2 : (vs.set s (v, k1, n1, w, c, NEV, t1, cs1))[s]? = some (v, k1, n1, w, c, NEV, t1, cs1) := by rw [List.getElem?_set, if_pos rfl, if_pos hsl]
    obtain ⟨ri2, rs2, rh2, NK2, rt2, NT2, rn2, Nn2, te2, rc2, NC2, rm2, Nm2, ce2, ls2, hG2⟩ := q1
    obtain ⟨l2, hl2, hV2, -⟩ := hG2.v hs2
    have hd2 : u2.2.2.2.1 v = (11, 0) := hV2.1.1
    have kv2 : (u2.2.2.2.1 v).1 = 11 := by rw [hd2]
    have n59 : ¬ 59 = v := k11 ty2 hd2 (by decide)
    refine kjZ_y rfl rfl 8 _ _ _ _ ty2 ?_
    refine (And.intro (by assumption) (And.intro (Or.inl rfl) (fun ty2' => (And.intro (by assumption) (And.intro (Or.inl rfl) (fun ty2'' => And.intro rfl (And.intro (Nat.le_of_ble_eq_true rfl) ?_)))))))
    have eI : ∀ h x, mjIu (mjIu u2.1 v 6 (Int32.ofInt 0)) v 4 (Int32.ofInt 0) h x = if h = v ∧ (x = 4 ∨ x = 6) then 0 else u2.1 h x := by
      intro h x
      rw [mjIu_at, mjIu_at]
      by_cases z : h = v
      · rw [z]
        by_cases z4 : x = 4
        · rw [if_pos ⟨rfl, z4⟩, if_pos ⟨rfl, Or.inl z4⟩]; rfl
        · rw [if_neg (fun q => z4 q.2)]
          by_cases z6 : x = 6
          · rw [if_pos ⟨rfl, z6⟩, if_pos ⟨rfl, Or.inr z6⟩]; rfl
          · rw [if_neg (fun q => z6 q.2), if_neg (fun q => q.2.elim z4 z6)]
      · rw [if_neg (fun q => z q.1), if_neg (fun q => z q.1), if_neg (fun q => z q.1)]
    have hu := hG2.upg (u := (mjIu (mjIu u2.1 v 6 (Int32.ofInt 0)) v 4 (Int32.ofInt 0), u2.2)) (r' := (v, k1, 0, 0, c, NEV, [], emC k1)) (l' := l2) ty2 q2 q3 hs2 hl2 rfl ⟨rfl, fun h x z _ => (eI h x).trans (if_neg (fun q => z q.1)), fun _ _ _ _ => rfl⟩ (fun _ _ => rfl) (hV2.zero rfl (fun x z4 z6 => (eI v x).trans (if_neg (fun q => q.2.elim z4 z6))) ((eI v 4).trans (if_pos ⟨rfl, Or.inl rfl⟩)) ((eI v 6).trans (if_pos ⟨rfl, Or.inr rfl⟩)) rfl) (fun i q k2 hi hq hk2 => ?_)
    · obtain ⟨m1, m2, m3, m4⟩ := hu
      rw [List.set_set] at m1
      refine ⟨rfl, ?_, m2, m3, Ch.tr ty1 frO_in (Ch.tr ty1 frO_in chy (up1 q4 (by decide) (by decide))) (up1 m4 (by decide) (by decide))⟩
      have m1 : RST _ il sl (vs.set s (v, k1, 0, 0, c, NEV, [], emC k1)) (mjIu (mjIu u2.1 v 6 (Int32.ofInt 0)) v 4 (Int32.ofInt 0) 59 14) (mjIu (mjIu u2.1 v 6 (Int32.ofInt 0)) v 4 (Int32.ofInt 0) 59 15) := m1
      rw [eI 59 14, eI 59 15, if_neg (fun q => n59 q.1), if_neg (fun q => n59 q.1), hG2.2.2.2.2.2.1, hG2.2.2.2.2.2.2] at m1
      exact m1
    · have z : LD (v, k1, n1, w, c, NEV, t1, cs1) l2 q k2 := hG2.2.2.2.2.1.2.2 s i _ l2 q k2 (fun y => hi y.symm) hs2 hl2 hq hk2
      exact z
  refine kjZ_y rfl rfl 12 _ _ _ _ ty ?_
  refine (And.intro (ty.k (by decide) rfl) (Exists.intro _ (And.intro i5 (And.intro (ty.k (by decide) rfl) (Exists.intro _ (And.intro i3 (Or.inl (And.intro (kdk i4) (And.intro (kdv i4 v3) (Or.inl (And.intro (Or.inr (kdk i6)) (And.intro (kdv i6 vs3) (Exists.intro _ (And.intro ef (And.intro (Nat.le_of_ble_eq_true rfl) (And.intro (by assumption) (And.intro (fun o => ?_) (fun o => ?_))))))))))))))))))
  · have o : σ.1 v 1 = x2 := o
    rw [ek, e2] at o
    have ekk : k = k' := (nI_eq (by omega) (by omega)).mp o
    exact fin σ k n t cs ekk ty ow po (by rw [set_self hs]; exact ho) ch
  · refine kjZ_y rfl rfl 3 _ _ _ _ ty ?_
    refine (And.intro (Nat.le_of_ble_eq_true rfl) (And.intro (Or.inl ⟨(Nat.le_of_ble_eq_true rfl), (by assumption)⟩) (And.intro (Nat.le_of_ble_eq_true rfl) (And.intro (Nat.le_of_ble_eq_true rfl) (kjY_mono ty (fun q_ u1 ty2 xu1 h_ => ?_) (k_become ty ow po ho hs hk _ e2))))))
    obtain ⟨rfl, q1, q2, q3, q4⟩ := h_
    intro _ _
    exact fin u1 k' 0 [] (emC k') rfl ty2 q2 q3 q1 (Ch.tr ty1 frO_in ch (up1 q4 (by decide) (by decide)))
theorem CSM_em {k : Nat} (hk : k ≤ 4) : CSM nm k (emC k) [] := by
  have h0 : IDL nm [] [] := ⟨rfl, fun j w h => by cases h⟩
  refine ⟨fun z => ⟨rfl, by rw [z]; rfl⟩, fun z => ⟨[], ?_, h0⟩, fun z => ⟨[], [], by rw [z]; rfl, h0, h0⟩, fun z => ⟨[], [], [], [], [], by rw [z]; rfl, h0, rfl, h0, rfl, List.Perm.nil, List.Pairwise.nil⟩⟩
  rcases z with z | z <;> rw [z] <;> rfl
theorem AV_em {v k' : Nat} {c : Int32} {a1 : List Int32} (hk : k' ≤ 4) : AV nm (v, k', 0, 0, c, NEV, [], emC k') (a1, nI k', 0, 0, [], []) := ⟨rfl, hk, rfl, rfl, by show 0 = if k' = 0 then 0 else 0; split <;> rfl, CSM_em hk⟩
/-- a fresh value has come to a key -/
def frP (σ0 : kS) (B : List (List Int32)) (σ : kS) (ws nm : List (List Int32)) (ks : List KC) (v : List Int32) (s : Nat) : kK := fun r u => ∃ P x Q, r = some (.ref x.1) ∧ KWd σ0 B u ws nm (P ++ x :: Q) ∧ SCl scA σ u ∧ x.2.2.2.1 = 0 ∧ x.2.2.2.2.2 = (v, nI s, 0, 0, [], []) ∧ nm[x.2.1]? = some v ∧
  ((∃ y, ks = P ++ y :: Q ∧ y.2.2.2.2.2.1 = v ∧ kyI (skA ks) v = some P.length ∧ x.2.2.2.2.1 = y.2.2.2.2.1) ∨ (ks = P ++ Q ∧ kyI (skA ks) v = none ∧ P.length = plF (anm (skA ks)) v ∧ x.2.2.2.2.1 = 0))
theorem SRN_ins {ns : List (List Int32)} (hs : SRN ns) {v : List Int32} (h : ∀ q, ns[plF ns v]? = some q → ¬ cmpW q v = 0) : SRN (ns.take (plF ns v) ++ v :: ns.drop (plF ns v)) := (SRN_in hs v h).1
theorem kx_fresh (ty : kTY σ) (w : KWd σ0 B σ ws nm ks) {k : Nat} {v : List Int32} (hk : nm[k]? = some v) {s : Nat} (hs4 : s ≤ 4) (hcap : kyI (skA ks) v = none → ks.length + 1 ≤ 2600) (x1 x2 : Int32) (e1 : x1 = nI k) (e2 : x2 = nI s) :
    kjY kPP (kQQ Y) (d + 4) 131 0 (mjL0 5 [.ref 59, .int x1, .int x2]) [] σ (frP σ0 B σ ws nm ks v s) := by
  obtain ⟨fr, vs, hR, hV⟩ := w.2.2.2.2.1
  have hw := w.2.2.1.1
  have ow := w.2.1.1
  have po := w.2.1.2
  have hRo := hR
  have hnd := hR.nd
  obtain ⟨ri, rs, rh, NK, rt, NT, rn, Nn, te, rc, NC, rm, Nm, ce, ls, hG⟩ := hR
  have i1 := hG.1.1.1
  obtain ⟨b1, b2, b3, b4, b5⟩ := hG.2.2.2.1.1
  obtain ⟨b6, b6b, b6c⟩ := hG.2.2.2.1.2.1
  rw [List.length_map] at b1 b3
  rw [List.length_append, List.length_map] at b6
  have hvb := hw.b8 ty hk
  have ple : plF (anm (skA ks)) v ≤ ks.length := by have := plF_le (anm (skA ks)) v; rw [anm_len, skA_len] at this; exact this
  -- what comes of the last stage
  have sto : ∀ {u : kS} {vs fs os}, Ch vs fs os σ u → (∀ p ∈ fs, p ∈ stKf) → (∀ p ∈ os, p ∈ stKo) → OWN u → POT u → KW0 σ0 B u ws nm ∧ SCl scA σ u := fun hc h1 h2 o p => w.k0.sto ty hc h1 h2 o p
  refine kjZ_y rfl rfl 8 _ _ _ _ ty ?_
  refine (And.intro (ty.k (by decide) rfl) (And.intro (ty.k (by decide) rfl) (Exists.intro _ (And.intro i1 (And.intro (ty.k (by decide) rfl) (And.intro (Nat.le_of_ble_eq_true rfl) (And.intro (Or.inl ⟨(Nat.le_of_ble_eq_true rfl), (ty.k (by decide) rfl)⟩) (And.intro (Nat.le_of_ble_eq_true rfl) (And.intro (Nat.le_of_ble_eq_true rfl) (kjY_mono ty (fun q_ u1 ty1 xu1 h_ => ?_) (kx_findId ty hw hRo hV hk _ _ i1 rfl e1)))))))))))
  obtain ⟨rfl, rfl⟩ := h_
  intro _ _
  rcases fd_cases hV.2.2 (hV.nb ty1 hw) hvb with ⟨f1, f2⟩ | ⟨P, y, Q, f1, f2, f3, f4⟩
  · -- there is none
    have hcp := hcap f2
    have hneg : fdR (anm (skA ks)) v < 0 := by
      rw [f1, Int32.lt_iff_toInt_lt, Int32.toInt_sub, nI_toInt (by omega), show ((-1 : Int32)).toInt = -1 by decide]
      rw [Int.bmod_eq_of_le (by omega) (by omega)]; show _ < (0 : Int); omega
    have epl : Int32.ofInt (-1) - fdR (anm (skA ks)) v = nI (plF (anm (skA ks)) v) := by
      rw [f1]
      have : ∀ a b : Int32, a - (a - b) = b := fun a b => by
        rw [Int32.sub_eq_add_neg, Int32.neg_sub, Int32.sub_eq_add_neg, ← Int32.add_assoc, Int32.add_comm a b, Int32.add_assoc, ← Int32.sub_eq_add_neg a a, Int32.sub_self, Int32.add_zero]
      exact this _ _
    obtain ⟨p, ep⟩ : ∃ p, p = plF (anm (skA ks)) v := ⟨_, rfl⟩
    rw [← ep] at epl ple
    refine kjZ_y rfl rfl 3 _ _ _ _ ty1 ?_
    refine (And.intro (Nat.le_of_ble_eq_true rfl) (And.intro (fun c => ?_) (fun c => ?_)))
    · exact absurd hneg (Int32.not_lt.mpr c)
    -- from the entering on
    have enter : ∀ (y : kS) (vs' : List VR) (s0 : Nat) (fr' : List Nat) (x3 : Int32), x3 = nI p → kTY y → OWN y → POT y → RST y (ks.map (fun x => x.2.1)) (ks.map (fun x => x.2.2.1) ++ s0 :: fr') vs' (cSum ks) (tSum ks) → STV nm ks (s0 :: fr') vs' → Ch true frF frO u1 y → kjY kPP (kQQ Y) (d + 4) 131 22 [some (.ref 59), some (.int x1), some (.int x2), some (.int x3), none] [] y (frP σ0 B u1 ws nm ks v s) := by
      intro y vs' s0 fr' x3 e3 tyy owy poy hy hV' chy
      have hndy := hy.nd
      obtain ⟨r0, a1, a2, a3, a4, -⟩ := hV'.2.1 s0 List.mem_cons_self
      refine kjZ_y rfl rfl 4 _ _ _ _ tyy ?_
      refine (And.intro (Nat.le_of_ble_eq_true rfl) (And.intro (Or.inl ⟨(Nat.le_of_ble_eq_true rfl), (tyy.k (by decide) rfl)⟩) (And.intro (Nat.le_of_ble_eq_true rfl) (And.intro (Nat.le_of_ble_eq_true rfl) (kjY_mono tyy (fun q_ u2 ty2 xu2 h_ => ?_) (k_enter tyy owy poy hy (by rw [List.length_map, List.length_map]) (p := p) (k := k) (by rw [List.length_map]; exact ple) _ _ e3 e1))))))
      obtain ⟨rfl, q1, q2, q3, q4⟩ := h_
      intro _ _
      obtain ⟨v0, k0, n0, w0, c0, e0, t0, cs0⟩ := r0
      have a2 : n0 = 0 := a2
      have a3 : c0 = 0 := a3
      have a4 : e0 = NEV := a4
      have hsp : (insL (ks.map (fun x => x.2.2.1)) p s0 ++ fr')[p]? = some s0 := by
        rw [List.getElem?_append_left (by rw [insL_len, List.length_map]; omega), insL_get (by rw [List.length_map]; exact ple), if_neg (Nat.lt_irrefl p), if_pos rfl]
      have kf := k_fresh2 (Y := Y) (d := d + 2) ty1 ty2 q2 q3 q1 hsp a1 hs4 (Ch.tr ty1 frO_in chy (q4.up (fun _ => rfl) (by decide) (by decide))) x1 x2 x3 e2 e3
      refine kjY_mono ty2 (fun r u _ _ z => ?_) kf
      obtain ⟨rfl, z1, z2, z3, z4⟩ := z
      obtain ⟨m1, m2⟩ := sto z4 (by decide) (by decide) z2 z3
      have eil : insL (ks.map (fun x => x.2.1)) p k = (ks.take p ++ ((v0, k, s0, 0, c0, (v, nI s, 0, 0, [], [])) : KC) :: ks.drop p).map (fun x => x.2.1) := by
        unfold insL; rw [List.map_append, List.map_cons, List.map_take, List.map_drop]
      have esl : insL (ks.map (fun x => x.2.2.1)) p s0 = (ks.take p ++ ((v0, k, s0, 0, c0, (v, nI s, 0, 0, [], [])) : KC) :: ks.drop p).map (fun x => x.2.2.1) := by
        unfold insL; rw [List.map_append, List.map_cons, List.map_take, List.map_drop]
      have ens : kyI (skA ks) v = none := f2
      refine ⟨ks.take p, (v0, k, s0, 0, c0, (v, nI s, 0, 0, [], [])), ks.drop p, rfl, m1.mk ⟨fr', vs'.set s0 (v0, s, 0, 0, c0, NEV, [], emC s), ?_, ?_⟩, m2, rfl, rfl, hk, Or.inr ⟨(List.take_append_drop p ks).symm, f2, by rw [List.length_take]; omega, a3⟩⟩
      · rw [← eil, ← esl]
        have ec : cSum (ks.take p ++ ((v0, k, s0, 0, c0, (v, nI s, 0, 0, [], [])) : KC) :: ks.drop p) = cSum ks := by
          conv => rhs; rw [← List.take_append_drop p ks]
          rw [cSum_app, cSum_app]; show _ + (c0 + _) = _; rw [a3, Int32.zero_add]
        have et : tSum (ks.take p ++ ((v0, k, s0, 0, c0, (v, nI s, 0, 0, [], [])) : KC) :: ks.drop p) = tSum ks + (nvI NEV - nvI e0) := by
          conv => rhs; rw [← List.take_append_drop p ks]
          rw [tSum_app, tSum_app, a4, Int32.sub_self, Int32.add_zero]
          show _ + (nvI NEV + _) = _
          rw [show nvI NEV = 0 from rfl, Int32.zero_add]
        rw [ec, et]; exact z1
      · have ne : ∀ x ∈ ks, ¬ x.2.2.1 = s0 := fun x hx z => by
          rw [List.nodup_append] at hndy
          exact hndy.2.2 _ (List.mem_map.mpr ⟨x, hx, rfl⟩) _ List.mem_cons_self z
        have nef : ∀ q ∈ fr', ¬ q = s0 := fun q hq z => by
          rw [List.nodup_append] at hndy
          exact (List.nodup_cons.mp hndy.2.1).1 (z ▸ hq)
        have old : ∀ {t : Nat} {q : VR}, ¬ t = s0 → vs'[t]? = some q → (vs'.set s0 (v0, s, 0, 0, c0, NEV, [], emC s))[t]? = some q := fun z e => by rw [List.getElem?_set, if_neg (fun y => z y.symm)]; exact e
        refine ⟨fun x hx => ?_, fun q hq => ?_, ?_⟩
        · have oth : x ∈ ks → ∃ r, (vs'.set s0 (v0, s, 0, 0, c0, NEV, [], emC s))[x.2.2.1]? = some r ∧ r.1 = x.1 ∧ r.2.2.2.1 = x.2.2.2.1 ∧ r.2.2.2.2.1 = x.2.2.2.2.1 ∧ AV nm r x.2.2.2.2.2 ∧ nm[x.2.1]? = some x.2.2.2.2.2.1 := fun hx => by
            obtain ⟨r, c1, c2⟩ := hV'.1 x hx
            exact ⟨r, old (ne x hx) c1, c2⟩
          rcases List.mem_append.mp hx with z | z
          · exact oth (List.mem_of_mem_take z)
          · rcases List.mem_cons.mp z with z | z
            · subst z
              exact ⟨(v0, s, 0, 0, c0, NEV, [], emC s), by show (vs'.set s0 _)[s0]? = _; rw [List.getElem?_set, if_pos rfl, if_pos (List.getElem?_eq_some_iff.mp a1).1], rfl, rfl, rfl, AV_em hs4, hk⟩
            · exact oth (List.mem_of_mem_drop z)
        · obtain ⟨r, c1, c2⟩ := hV'.2.1 q (List.mem_cons_of_mem _ hq)
          exact ⟨r, old (nef q hq) c1, c2⟩
        · have e : anm (skA (ks.take p ++ ((v0, k, s0, 0, c0, (v, nI s, 0, 0, [], [])) : KC) :: ks.drop p)) = (anm (skA ks)).take p ++ v :: (anm (skA ks)).drop p := by
            unfold anm skA; rw [List.map_append, List.map_cons, List.map_append, List.map_cons, List.map_take, List.map_take, List.map_drop, List.map_drop]
          rw [e, ep]
          refine SRN_ins hV'.2.2 (fun q hq => ?_)
          exact kyI_hn f2 q hq
    refine kjZ_y rfl rfl 9 _ _ _ _ ty1 ?_
    refine (And.intro (Nat.le_of_ble_eq_true rfl) (And.intro (ty1.k (by decide) rfl) (And.intro (ty1.k (by decide) rfl) (And.intro (fun c2 => ?_) (fun c2 => ?_)))))
    · -- a slot is free
      have c2 : ¬ u1.1 59 13 = u1.1 59 6 := c2
      rw [b1, b2] at c2
      cases fr with
      | nil => exact absurd (by rw [show vs.length = ks.length by have : ([] : List Nat).length = 0 := rfl; omega]) c2
      | cons s0 fr' => exact enter u1 vs s0 fr' _ epl ty1 ow po hRo hV Ch.rf
    · have c2 : u1.1 59 13 = u1.1 59 6 := Decidable.not_not.mp c2
      rw [b1, b2] at c2
      have hlen : ks.length = vs.length := (nI_eq (by omega) (by omega)).mp c2
      have hfr : fr = [] := List.length_eq_zero_iff.mp (by omega)
      subst hfr
      refine kjZ_y rfl rfl 2 _ _ _ _ ty1 ?_
      refine (And.intro (Nat.le_of_ble_eq_true rfl) (And.intro (Or.inl ⟨(Nat.le_of_ble_eq_true rfl), (ty1.k (by decide) rfl)⟩) (And.intro (Nat.le_of_ble_eq_true rfl) (And.intro (Nat.le_of_ble_eq_true rfl) (kjY_mono ty1 (fun q_ u2 ty2 xu2 h_ => ?_) (k_addValue ty1 ow po hRo (by omega)))))))
      obtain ⟨rfl, g, q1, q2, q3, q4⟩ := h_
      intro _ _
      rw [List.append_nil] at q1
      have hVn : STV nm ks [vs.length] (vs ++ [nwV g]) := by
        obtain ⟨g1, g2, g3⟩ := hV
        refine ⟨fun x hx => ?_, fun q hq => ?_, g3⟩
        · obtain ⟨r, c1, c2⟩ := g1 x hx
          exact ⟨r, by rw [List.getElem?_append_left (List.getElem?_eq_some_iff.mp c1).1]; exact c1, c2⟩
        · rw [List.mem_singleton.mp hq]
          exact ⟨nwV g, by rw [List.getElem?_append_right (Nat.le_refl _), Nat.sub_self]; rfl, rfl, rfl, rfl, rfl⟩
      exact enter u2 _ vs.length [] _ epl ty2 q2 q3 q1 hVn (q4.up (fun _ => rfl) (by decide) (by decide))
  · -- there is one
    have hPl : P.length < ks.length := by rw [f1, List.length_append, List.length_cons]; omega
    obtain ⟨r0, a1, a2, a3, a4, a5, a6⟩ := hV.1 y (by rw [f1]; exact List.mem_append_right _ List.mem_cons_self)
    have hsp : (ks.map (fun x => x.2.2.1) ++ fr)[P.length]? = some y.2.2.1 := by
      rw [List.getElem?_append_left (by rw [List.length_map]; exact hPl), List.getElem?_map, f1, List.getElem?_append_right (Nat.le_refl _), Nat.sub_self]; rfl
    refine kjZ_y rfl rfl 3 _ _ _ _ ty1 ?_
    refine (And.intro (Nat.le_of_ble_eq_true rfl) (And.intro (fun c => ?_) (fun c => ?_)))
    rotate_left
    · exact absurd (show (0 : Int32) ≤ fdR (anm (skA ks)) v by rw [f4]; exact nI_le (a := 0) (Nat.zero_le _) (by omega)) c
    obtain ⟨v0, k0, n0, w0, c0, e0, t0, cs0⟩ := r0
    have a2 : v0 = y.1 := a2
    have a4 : c0 = y.2.2.2.2.1 := a4
    have a5e : e0 = endE y.2.2.2.2.2 := a5.2.2.1
    have kf := k_fresh2 (Y := Y) (d := d + 2) ty1 ty1 ow po hRo hsp a1 hs4 Ch.rf x1 x2 (fdR (anm (skA ks)) v) e2 f4
    refine kjY_mono ty1 (fun r u _ _ z => ?_) kf
    obtain ⟨rfl, z1, z2, z3, z4⟩ := z
    obtain ⟨m1, m2⟩ := sto z4 (by decide) (by decide) z2 z3
    subst f1
    have hmp := ks_maps (P := P) (Q := Q) (x := y) (x' := (y.1, y.2.1, y.2.2.1, 0, y.2.2.2.2.1, (v, nI s, 0, 0, [], []))) ⟨rfl, rfl⟩
    refine ⟨P, (y.1, y.2.1, y.2.2.1, 0, y.2.2.2.2.1, (v, nI s, 0, 0, [], [])), Q, by rw [a2], m1.mk ⟨fr, _, ?_, hV.upd hnd ⟨rfl, rfl, rfl, f2.symm⟩ ⟨a2, rfl, a4, AV_em hs4⟩⟩, m2, rfl, rfl, by rw [← f2]; exact a6, Or.inl ⟨y, rfl, f2, f3, rfl⟩⟩
    rw [hmp.1, hmp.2]
    have ec : cSum (P ++ ((y.1, y.2.1, y.2.2.1, 0, y.2.2.2.2.1, (v, nI s, 0, 0, [], [])) : KC) :: Q) = cSum (P ++ y :: Q) := by rw [cSum_app, cSum_app]; rfl
    have et : tSum (P ++ ((y.1, y.2.1, y.2.2.1, 0, y.2.2.2.2.1, (v, nI s, 0, 0, [], [])) : KC) :: Q) = tSum (P ++ y :: Q) + (nvI NEV - nvI e0) := by
      rw [tSum_app, tSum_app, a5e]
      show tSum P + (nvI NEV + tSum Q) = tSum P + (nvI (endE y.2.2.2.2.2) + tSum Q) + (nvI NEV - nvI (endE y.2.2.2.2.2))
      rw [show nvI NEV = 0 from rfl, Int32.zero_add, Int32.zero_sub, Int32.add_assoc, Int32.add_assoc, Int32.add_comm (tSum Q), ← Int32.add_assoc (nvI _), ← Int32.sub_eq_add_neg, Int32.sub_self, Int32.zero_add]
    rw [ec, et]; exact z1
end KFRESH
