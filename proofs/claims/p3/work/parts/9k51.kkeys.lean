/-! Keys over the world of a command: a key is found; watchers are told. -/
def KW0 (σ0 : kS) (B : List (List Int32)) (σ : kS) (ws nm : List (List Int32)) : Prop := (kTY σ0 ∧ Ch true kcF kcO σ0 σ) ∧ (OWN σ ∧ POT σ) ∧ (WRD σ nm ∧ ∀ w ∈ nm, w ∈ B) ∧ RQ σ ws ∧ (∀ b ∈ ANn, ∃ l, kBY σ b l) ∧ (∃ b ∈ ANb, σ.2.2.1 53 6 = some b) ∧ POO σ ∧ WAT σ
section KKEYS
variable {Y : Nat → MethodName × ByteArray} {d : Nat} {σ0 σ u : kS} {B ws nm : List (List Int32)} {ks : List KC}
theorem KWd.k0 (w : KWd σ0 B σ ws nm ks) : KW0 σ0 B σ ws nm := ⟨w.1, w.2.1, w.2.2.1, w.2.2.2.1, w.2.2.2.2.2.1, w.2.2.2.2.2.2.1, w.2.2.2.2.2.2.2.1, w.2.2.2.2.2.2.2.2⟩
theorem KW0.mk (w : KW0 σ0 B σ ws nm) (h : STO σ nm ks) : KWd σ0 B σ ws nm ks := ⟨w.1, w.2.1, w.2.2.1, w.2.2.2.1, h, w.2.2.2.2.1, w.2.2.2.2.2.1, w.2.2.2.2.2.2.1, w.2.2.2.2.2.2.2⟩
theorem KW0.sto (ty : kTY σ) (w : KW0 σ0 B σ ws nm) {vs : Bool} {fs os : List (Nat × Nat)} (ch : Ch vs fs os σ u) (hf : ∀ p ∈ fs, p ∈ stKf) (ho : ∀ p ∈ os, p ∈ stKo) (ow : OWN u) (po : POT u) : KW0 σ0 B u ws nm ∧ SCl scA σ u := by
  obtain ⟨w1, w2, w3, w4, w6, ⟨b, hb, w7⟩, w8, w9⟩ := w
  have a1 : ∀ p ∈ stKf, p ∈ kcF ∧ ¬ p.1 = 48 ∧ ¬ p.1 = 71 ∧ p.1 = 59 := by decide +kernel
  have a2 : ∀ p ∈ stKo, p ∈ kcO ∧ p ∈ OWs ∧ ¬ p.1 = 48 ∧ ¬ p.1 = 71 ∧ p.1 = 59 := by decide +kernel
  refine ⟨⟨⟨w1.1, Ch.tr w1.1 kcO_in w1.2 (ch.up (fun _ => rfl) (fun p hp => (a1 p (hf p hp)).1) (fun p hp => (a2 p (ho p hp)).1))⟩, ⟨ow, po⟩, ⟨w3.1.fr ty w2.1 ch (fun p hp => (a1 p (hf p hp)).2.1) (fun p hp => ⟨(a2 p (ho p hp)).2.1, (a2 p (ho p hp)).2.2.1⟩), w3.2⟩, w4.fr ty w2.1 ch (fun p hp => (a1 p (hf p hp)).1) (fun p hp => (a2 p (ho p hp)).1), fun c hc => ?_, ⟨b, hb, ?_⟩, w8.fr ty w2.1 ch (fun p hp => (a1 p (hf p hp)).2.2.1) (fun p hp => ⟨(a2 p (ho p hp)).2.1, (a2 p (ho p hp)).2.2.2.1⟩), fun c hc => ?_⟩, ch.sc ty (fun p hp => ⟨(scA_ok p hp).1, (scA_ok p hp).2.1, fun z => (scA_ok p hp).2.2.2.2.2 (hf p z)⟩)⟩
  · obtain ⟨l', hl'⟩ := w6 c hc
    have n59 := (ANn_b c hc).2.2.1
    exact ⟨l', hl'.fr ty w2.1 (ANn_b c hc).1 ch (fun p hp => by rw [(a1 p (hf p hp)).2.2.2]; exact fun z => n59 z.symm) (fun p hp => ⟨(a2 p (ho p hp)).2.1, by rw [(a2 p (ho p hp)).2.2.2.2]; exact fun z => n59 z.symm⟩)⟩
  · rw [(ch.fld ty (h := 53) (x := 6) (c := 3) (by decide) rfl (by decide) (fun z => absurd (hf _ z) (by decide))).2.2]; exact w7
  · obtain ⟨n, hn, e⟩ := w9 c hc
    have q : ∀ c ∈ [12, 21, 30, 39], c < 76 ∧ (kd0 c).1 = 1 ∧ ¬ (c, 9) ∈ stKf := by decide +kernel
    exact ⟨n, hn, by rw [(ch.fld ty (q c hc).1 (q c hc).2.1 (by decide) (fun z => (q c hc).2.2 (hf _ z))).1]; exact e⟩
theorem cSum_app (a b : List KC) : cSum (a ++ b) = cSum a + cSum b := by
  induction a with
  | nil => exact (Int32.zero_add _).symm
  | cons x r ih => show x.2.2.2.2.1 + cSum (r ++ b) = x.2.2.2.2.1 + cSum r + cSum b; rw [ih, Int32.add_assoc]
theorem tSum_app (a b : List KC) : tSum (a ++ b) = tSum a + tSum b := by
  induction a with
  | nil => exact (Int32.zero_add _).symm
  | cons x r ih => show nvI (endE x.2.2.2.2.2) + tSum (r ++ b) = nvI (endE x.2.2.2.2.2) + tSum r + tSum b; rw [ih, Int32.add_assoc]
theorem skA_app (a b : List KC) : skA (a ++ b) = skA a ++ skA b := List.map_append
theorem skA_cons (x : KC) (b : List KC) : skA (x :: b) = x.2.2.2.2.2 :: skA b := rfl
theorem skA_len (a : List KC) : (skA a).length = a.length := List.length_map _
/-- the slots are apart -/
theorem kslot_ne {P Q : List KC} {x : KC} {fr : List Nat} (hn : ((P ++ x :: Q).map (fun x => x.2.2.1) ++ fr).Nodup) : (∀ y ∈ P, ¬ y.2.2.1 = x.2.2.1) ∧ (∀ y ∈ Q, ¬ y.2.2.1 = x.2.2.1) ∧ ∀ s ∈ fr, ¬ s = x.2.2.1 := by
  rw [List.map_append, List.map_cons, List.append_assoc, List.nodup_append] at hn
  obtain ⟨-, h2, h3⟩ := hn
  rw [List.cons_append, List.nodup_cons] at h2
  refine ⟨fun y hy => h3 _ (List.mem_map.mpr ⟨y, hy, rfl⟩) _ List.mem_cons_self, fun y hy z => h2.1 (List.mem_append_left _ (List.mem_map.mpr ⟨y, hy, z⟩)), fun s hs z => h2.1 (List.mem_append_right _ (z ▸ hs))⟩
theorem RST.nd {il sl : List Nat} {vs : List VR} {M T : Int32} (h : RST σ il sl vs M T) : sl.Nodup := by
  obtain ⟨ri, rs, rh, NK, rt, NT, rn, Nn, te, rc, NC, rm, Nm, ce, ls, hG⟩ := h
  exact hG.2.2.2.1.2.1.2.1
/-- one key's value has changed -/
theorem STV.upd {P Q : List KC} {x x' : KC} {fr : List Nat} {vs : List VR} (g : STV nm (P ++ x :: Q) fr vs) (hn : ((P ++ x :: Q).map (fun x => x.2.2.1) ++ fr).Nodup) {r' : VR} (h1 : x'.1 = x.1 ∧ x'.2.1 = x.2.1 ∧ x'.2.2.1 = x.2.2.1 ∧ x'.2.2.2.2.2.1 = x.2.2.2.2.2.1) (h2 : r'.1 = x.1 ∧ r'.2.2.2.1 = x'.2.2.2.1 ∧ r'.2.2.2.2.1 = x'.2.2.2.2.1 ∧ AV nm r' x'.2.2.2.2.2) : STV nm (P ++ x' :: Q) fr (vs.set x.2.2.1 r') := by
  obtain ⟨g1, g2, g3⟩ := g
  obtain ⟨n1, n2, n3⟩ := kslot_ne hn
  obtain ⟨r, a1, a2, a3, a4, a5, a6⟩ := g1 x (List.mem_append_right _ List.mem_cons_self)
  have old : ∀ {s : Nat} {q : VR}, ¬ s = x.2.2.1 → vs[s]? = some q → (vs.set x.2.2.1 r')[s]? = some q := fun z e => by rw [List.getElem?_set, if_neg (fun y => z y.symm)]; exact e
  refine ⟨fun y hy => ?_, fun s hs => ?_, ?_⟩
  · have oth : y ∈ P ++ x :: Q → ¬ y.2.2.1 = x.2.2.1 → ∃ r, (vs.set x.2.2.1 r')[y.2.2.1]? = some r ∧ r.1 = y.1 ∧ r.2.2.2.1 = y.2.2.2.1 ∧ r.2.2.2.2.1 = y.2.2.2.2.1 ∧ AV nm r y.2.2.2.2.2 ∧ nm[y.2.1]? = some y.2.2.2.2.2.1 := fun hy z => by
      obtain ⟨q, b1, b2⟩ := g1 y hy
      exact ⟨q, old z b1, b2⟩
    rcases List.mem_append.mp hy with z | z
    · exact oth (List.mem_append_left _ z) (n1 y z)
    · rcases List.mem_cons.mp z with z | z
      · subst z
        refine ⟨r', ?_, h2.1.trans h1.1.symm, h2.2.1, h2.2.2.1, h2.2.2.2, by rw [h1.2.1, h1.2.2.2]; exact a6⟩
        rw [h1.2.2.1, List.getElem?_set, if_pos rfl, if_pos (List.getElem?_eq_some_iff.mp a1).1]
      · exact oth (List.mem_append_right _ (List.mem_cons_of_mem _ z)) (n2 y z)
  · obtain ⟨q, b1, b2⟩ := g2 s hs
    exact ⟨q, old (n3 s hs) b1, b2⟩
  · have e : anm (skA (P ++ x' :: Q)) = anm (skA (P ++ x :: Q)) := by
      unfold anm; rw [skA_app, skA_app, skA_cons, skA_cons, List.map_append, List.map_append, List.map_cons, List.map_cons, h1.2.2.2]
    rw [e]; exact g3
/-- how the rows of keys look -/
theorem ks_maps {P Q : List KC} {x x' : KC} (h : x'.2.1 = x.2.1 ∧ x'.2.2.1 = x.2.2.1) : (P ++ x' :: Q).map (fun x => x.2.1) = (P ++ x :: Q).map (fun x => x.2.1) ∧ (P ++ x' :: Q).map (fun x => x.2.2.1) = (P ++ x :: Q).map (fun x => x.2.2.1) := by
  rw [List.map_append, List.map_append, List.map_cons, List.map_cons, h.1, List.map_append, List.map_append, List.map_cons, List.map_cons, h.2]; exact ⟨rfl, rfl⟩
/-- the names of the keys, as their numbers say -/
theorem STV.ids {fr : List Nat} {vs : List VR} (g : STV nm ks fr vs) {f : Nat → Int32} (h : ∀ i k, (ks.map (fun x => x.2.1))[i]? = some k → f i = nI k) : IDS f nm (anm (skA ks)) := by
  intro i q hq
  unfold anm skA at hq
  rw [List.map_map, List.getElem?_map] at hq
  cases e : ks[i]? with
  | none => rw [e] at hq; cases hq
  | some x =>
    rw [e] at hq
    have hq : some x.2.2.2.2.2.1 = some q := hq
    cases hq
    obtain ⟨r, a1, a2, a3, a4, a5, a6⟩ := g.1 x (List.mem_of_getElem? e)
    exact ⟨x.2.1, h i _ (by rw [List.getElem?_map, e]; rfl), a6⟩
/-- a key of this name, and where it stands -/
def fkP (ks : List KC) (v : List Int32) (o : Option KC) : Prop := (o = none ∧ kyI (skA ks) v = none) ∨ ∃ P x Q, o = some x ∧ ks = P ++ x :: Q ∧ x.2.2.2.2.2.1 = v ∧ kyI (skA ks) v = some P.length
theorem fd_cases (g : SRN (anm (skA ks))) {v : List Int32} (hb : ∀ a ∈ anm (skA ks), ∀ x ∈ a, x.toInt8.toInt32 = x) (hv : ∀ x ∈ v, x.toInt8.toInt32 = x) : (fdR (anm (skA ks)) v = -1 - nI (plF (anm (skA ks)) v) ∧ kyI (skA ks) v = none) ∨ ∃ P x Q, ks = P ++ x :: Q ∧ x.2.2.2.2.2.1 = v ∧ kyI (skA ks) v = some P.length ∧ fdR (anm (skA ks)) v = nI P.length := by
  have e1 : (anm (skA ks))[plF (anm (skA ks)) v]? = ((skA ks)[plF (anm (skA ks)) v]?).map (fun a => a.1) := by unfold anm; rw [List.getElem?_map]
  have e2 : (skA ks)[plF (anm (skA ks)) v]? = (ks[plF (anm (skA ks)) v]?).map (fun x => x.2.2.2.2.2) := by unfold skA; rw [List.getElem?_map]
  unfold fdR kyI
  rw [e1, e2]
  obtain ⟨p, ep⟩ : ∃ p, p = plF (anm (skA ks)) v := ⟨_, rfl⟩
  rw [← ep]
  cases hx : ks[p]? with
  | none => exact Or.inl ⟨rfl, rfl⟩
  | some x =>
    by_cases c : cmpW x.2.2.2.2.2.1 v = 0
    · right
      have hp := List.getElem?_eq_some_iff.mp hx
      obtain ⟨h1, h2⟩ := hp
      have hm : x.2.2.2.2.2.1 ∈ anm (skA ks) := List.mem_map.mpr ⟨x.2.2.2.2.2, List.mem_map.mpr ⟨x, List.mem_of_getElem? hx, rfl⟩, rfl⟩
      refine ⟨ks.take p, x, ks.drop (p + 1), ?_, cmpW_eq _ _ (hb _ hm) hv c, ?_, ?_⟩
      · rw [← h2, List.getElem_cons_drop, List.take_append_drop]
      · show (if cmpW x.2.2.2.2.2.1 v = 0 then some p else none) = _
        rw [if_pos c, List.length_take, Nat.min_eq_left (Nat.le_of_lt h1)]
      · show (if cmpW x.2.2.2.2.2.1 v = 0 then nI p else _) = _
        rw [if_pos c, List.length_take, Nat.min_eq_left (Nat.le_of_lt h1)]
    · left
      refine ⟨?_, ?_⟩
      · show (if cmpW x.2.2.2.2.2.1 v = 0 then nI p else _) = _
        rw [if_neg c]
      · show (if cmpW x.2.2.2.2.2.1 v = 0 then some p else none) = _
        rw [if_neg c]
theorem STV.nb {fr : List Nat} {vs : List VR} (ty : kTY σ) (hw : WRD σ nm) (g : STV nm ks fr vs) : ∀ a ∈ anm (skA ks), ∀ x ∈ a, x.toInt8.toInt32 = x := by
  intro a ha
  obtain ⟨b, hb, rfl⟩ := List.mem_map.mp ha
  obtain ⟨x, hx, rfl⟩ := List.mem_map.mp hb
  obtain ⟨r, a1, a2, a3, a4, a5, a6⟩ := g.1 x hx
  exact hw.b8 ty a6
/-- a word's place among the keys -/
theorem kx_findId (ty : kTY σ) (hw : WRD σ nm) {fr : List Nat} {vs : List VR} {M T : Int32} (h : RST σ (ks.map (fun x => x.2.1)) (ks.map (fun x => x.2.2.1) ++ fr) vs M T) (g : STV nm ks fr vs) {k : Nat} {v : List Int32} (hk : nm[k]? = some v) (x2 x3 : Int32) {ri : Nat} (e1 : σ.2.2.1 59 3 = some ri) (e2 : x2 = σ.1 59 13) (e3 : x3 = nI k) : kjY kPP (kQQ Y) (d + 2) 82 0 (mjL0 8 [.ref 48, .ref ri, .int x2, .int x3]) [] σ (fun r u => u = σ ∧ r = some (.int (fdR (anm (skA ks)) v))) := by
  obtain ⟨ri', rs, rh, NK, rt, NT, rn, Nn, te, rc, NC, rm, Nm, ce, ls, hG⟩ := h
  obtain ⟨⟨⟨i1, i2⟩, ⟨i3, i4⟩, ⟨i5, i6⟩, i7, i8⟩, a2, a3, ⟨⟨b1, b2, b3, b4, b5⟩, b6, b7, b8, b9, b10⟩, a5, a6, a7⟩ := hG
  rw [i1] at e1; cases e1
  have hl : (anm (skA ks)).length = ks.length := by rw [anm_len, skA_len]
  rw [List.length_map] at b1 b3
  exact k_find ty hw i2 g.2.2 (g.ids b7) (by omega) (by omega) hk x2 x3 (by rw [e2, b1, hl]) e3
theorem kx_find (ty : kTY σ) (w : KWd σ0 B σ ws nm ks) {k : Nat} {v : List Int32} (hk : nm[k]? = some v) (x : Int32) (ex : x = nI k) : kjY kPP (kQQ Y) (d + 3) 130 0 (mjL0 3 [.ref 59, .int x]) [] σ (fun r u => u = σ ∧ ((r = some .null ∧ kyI (skA ks) v = none) ∨ ∃ P y Q, r = some (.ref y.1) ∧ ks = P ++ y :: Q ∧ y.2.2.2.2.2.1 = v ∧ kyI (skA ks) v = some P.length)) := by
  obtain ⟨fr, vs, hR, hV⟩ := w.2.2.2.2.1
  have hw := w.2.2.1.1
  have hRo := hR
  obtain ⟨ri, rs, rh, NK, rt, NT, rn, Nn, te, rc, NC, rm, Nm, ce, ls, hG⟩ := hR
  have i1 := hG.1.1.1
  have b3 := hG.2.2.2.1.1.2.2.1
  have b5 := hG.2.2.2.1.1.2.2.2.2
  rw [List.length_map] at b3
  have hvb := hw.b8 ty hk
  have ple : plF (anm (skA ks)) v ≤ ks.length := by have := plF_le (anm (skA ks)) v; rw [anm_len, skA_len] at this; exact this
  refine kjZ_y rfl rfl 8 _ _ _ _ ty ?_
  refine (And.intro (ty.k (by decide) rfl) (And.intro (ty.k (by decide) rfl) (Exists.intro _ (And.intro i1 (And.intro (ty.k (by decide) rfl) (And.intro (Nat.le_of_ble_eq_true rfl) (And.intro (Or.inl ⟨(Nat.le_of_ble_eq_true rfl), (ty.k (by decide) rfl)⟩) (And.intro (Nat.le_of_ble_eq_true rfl) (And.intro (Nat.le_of_ble_eq_true rfl) (kjY_mono ty (fun q_ u1 ty1 xu1 h_ => ?_) (kx_findId ty hw hRo hV hk _ _ i1 rfl ex)))))))))))
  obtain ⟨rfl, rfl⟩ := h_
  intro _ _
  rcases fd_cases hV.2.2 (hV.nb ty1 hw) hvb with ⟨e1, e2⟩ | ⟨P, y, Q, e1, e2, e3, e4⟩
  · have hneg : fdR (anm (skA ks)) v < 0 := by
      rw [e1, Int32.lt_iff_toInt_lt, Int32.toInt_sub, nI_toInt (by omega), show ((-1 : Int32)).toInt = -1 by decide]
      rw [Int.bmod_eq_of_le (by omega) (by omega)]; show _ < (0 : Int); omega
    refine kjZ_y rfl rfl 3 _ _ _ _ ty1 ?_
    refine (And.intro (Nat.le_of_ble_eq_true rfl) (And.intro (fun c => ?_) (fun c => ?_)))
    · exact absurd hneg (Int32.not_lt.mpr c)
    refine kjZ_y rfl rfl 3 _ _ _ _ ty1 ?_
    refine And.intro rfl (And.intro (Nat.le_of_ble_eq_true rfl) ?_)
    exact ⟨rfl, Or.inl ⟨rfl, e2⟩⟩
  · have hPl : P.length < ks.length := by rw [e1, List.length_append, List.length_cons]; omega
    refine kjZ_y rfl rfl 3 _ _ _ _ ty1 ?_
    refine (And.intro (Nat.le_of_ble_eq_true rfl) (And.intro (fun c => ?_) (fun c => ?_)))
    rotate_left
    · exact absurd (show (0 : Int32) ≤ fdR (anm (skA ks)) v by rw [e4]; exact nI_le (a := 0) (Nat.zero_le _) (by omega)) c
    refine kjZ_y rfl rfl 3 _ _ _ _ ty1 ?_
    refine (And.intro (Nat.le_of_ble_eq_true rfl) (And.intro (Or.inl ⟨(Nat.le_of_ble_eq_true rfl), (ty1.k (by decide) rfl)⟩) (And.intro (Nat.le_of_ble_eq_true rfl) (And.intro (Nat.le_of_ble_eq_true rfl) (kjY_mono ty1 (fun q_ u2 ty2 xu2 h_ => ?_) (k_valueAt ty1 hRo _))))))
    obtain ⟨rfl, q⟩ := h_
    intro _ _
    rcases q with ⟨rfl, q⟩ | ⟨i, s, r, q1, q2, q3, q4, rfl⟩
    · have := q P.length e4; rw [List.length_map] at this; omega
    · refine kjZ_y rfl rfl 1 _ _ _ _ ty2 ?_
      refine And.intro rfl (And.intro (Nat.le_of_ble_eq_true rfl) ?_)
      refine ⟨rfl, Or.inr ⟨P, y, Q, ?_, e1, e2, e3⟩⟩
      have hi : P.length = i := (nI_eq (by omega) (by rw [List.length_map] at q2; omega)).mp (e4.symm.trans q1)
      rw [← hi, List.getElem?_append_left (by rw [List.length_map]; omega), List.getElem?_map, e1, List.getElem?_append_right (Nat.le_refl _), Nat.sub_self] at q3
      have q3 : some y.2.2.1 = some s := q3
      cases q3
      obtain ⟨r2, a1, a2, -⟩ := hV.1 y (by rw [e1]; exact List.mem_append_right _ List.mem_cons_self)
      rw [a1] at q4; cases q4
      rw [a2]
/-- a watcher is told -/
theorem k_touched_l (ty : kTY σ) (w : KWd σ0 B σ ws nm ks) {c n : Nat} (hc : c ∈ [12, 21, 30, 39]) (hn : n ≤ 64) (x1 : Int32) : ∀ (f i : Nat) (x2 : Int32) (u : kS), i + f = n → x2 = nI i → kTY u → KWd σ0 B u ws nm ks → u.1 c 9 = nI n → SCl scA σ u →
    kjY kPP (kQQ Y) d 69 2 [some (.ref c), some (.int x1), some (.int x2)] [] u (wP σ0 B σ ws nm ks) := by
  have q : ∀ c ∈ [12, 21, 30, 39], c < 76 ∧ (kd0 c).1 = 1 ∧ (c, 6) ∈ scF ∧ c + 7 < 76 ∧ kd0 (c + 7) = (20, 64) ∧ ¬ (c, 6) ∈ scA := by decide +kernel
  obtain ⟨q1, q2, q3, q4, q5, q6⟩ := q c hc
  intro f
  induction f with
  | zero =>
    intro i x2 u hi e2 tu wu e9 su
    have kc : (u.2.2.2.1 c).1 = 1 := tu.k q1 q2
    refine kjZ_y rfl rfl 4 _ _ _ _ tu ?_
    refine (And.intro (by assumption) (And.intro (fun o => ?_) (fun o => ?_)))
    · refine kjZ_y rfl rfl 1 _ _ _ _ tu ?_
      refine And.intro rfl (And.intro rfl ?_)
      exact ⟨rfl, wu, su⟩
    · refine absurd (show u.1 c 9 ≤ x2 from ?_) o
      rw [e9, e2, nle (by omega) (by omega)]; omega
  | succ f ih =>
    intro i x2 u hi e2 tu wu e9 su
    have kc : (u.2.2.2.1 c).1 = 1 := tu.k q1 q2
    have v2 : vp_in x2 64 := by rw [e2]; exact vp_in_nI (by omega) (by decide)
    have kd : u.2.2.2.1 (c + 7) = (20, 64) := tu.kl q4 q5
    have fin : ∀ y : Int32, (y = 0 ∨ y = 1) → kjY kPP (kQQ Y) d 69 18 [some (.ref c), some (.int x1), some (.int x2)] [.int y, .int (u.1 c 6), .ref c] u (wP σ0 B σ ws nm ks) := by
      intro y hy
      have hb := tu.1 c 6 (by rw [kc]; decide) (by rw [kc]; rfl)
      have hor : u.1 c 6 ||| y = 0 ∨ u.1 c 6 ||| y = 1 := by
        rcases hb with z | z <;> rcases hy with y | y <;> rw [z, y] <;> decide
      refine kjZ_y rfl rfl 4 _ _ _ _ tu ?_
      refine (And.intro (by assumption) (And.intro (Or.inr ⟨rfl, hor⟩) (fun tu' => ?_)))
      have go : ∀ v, kTY v → v = (mjIu u.1 c 6 (u.1 c 6 ||| y), u.2) → kjY kPP (kQQ Y) d 69 2 [some (.ref c), some (.int x1), some (.int (x2 + Int32.ofInt 1))] [] v (wP σ0 B σ ws nm ks) := by
        intro v tv ev
        refine ih (i + 1) _ v (by omega) (by rw [e2]; exact nI_1 i) tv (by rw [ev]; exact wu.pi tu q3) ?_ (su.tr (by rw [ev]; exact SCl.i q6))
        rw [ev]; show mjIu u.1 c 6 _ c 9 = _
        rw [mjIu_q (by decide)]; exact e9
      exact go _ tu' rfl
    refine kjZ_y rfl rfl 4 _ _ _ _ tu ?_
    refine (And.intro (by assumption) (And.intro (fun o => ?_) (fun o => ?_)))
    · refine absurd (show u.1 c 9 ≤ x2 from o) ?_
      rw [e9, e2, nle (by omega) (by omega)]; omega
    refine kjZ_y rfl rfl 9 _ _ _ _ tu ?_
    refine (And.intro (by assumption) (And.intro (by assumption) (Or.inl (And.intro (kdk kd) (And.intro (kdv kd v2) (And.intro (fun o2 => ?_) (fun o2 => ?_)))))))
    · refine kjZ_y rfl rfl 1 _ _ _ _ tu ?_
      exact fin _ (Or.inl rfl)
    · refine kjZ_y rfl rfl 2 _ _ _ _ tu ?_
      exact fin _ (Or.inr rfl)
theorem kx_touched (ty : kTY σ) (w : KWd σ0 B σ ws nm ks) {c : Nat} (hc : c ∈ [12, 21, 30, 39]) (x1 : Int32) : kjY kPP (kQQ Y) d 69 0 (mjL0 3 [.ref c, .int x1]) [] σ (wP σ0 B σ ws nm ks) := by
  obtain ⟨n, hn, e9⟩ := w.2.2.2.2.2.2.2.2 c hc
  refine kjZ_y rfl rfl 2 _ _ _ _ ty ?_
  refine (And.intro (Nat.le_of_ble_eq_true rfl) ?_)
  exact k_touched_l ty w hc hn x1 n 0 _ σ (by omega) rfl ty w e9 SCl.rf
theorem kx_touch_l (ty : kTY σ) (x1 : Int32) : ∀ (f i : Nat) (x4 : Int32) (o5 : Option Value) (u : kS), i + f = 4 → x4 = nI i → kTY u → KWd σ0 B u ws nm ks → SCl scA σ u →
    kjY kPP (kQQ Y) (d + 1) 139 8 [some (.ref 59), some (.int x1), some (.ref 11), some (.int (nI 4)), some (.int x4), o5] [] u (wP σ0 B σ ws nm ks) := by
  intro f
  induction f with
  | zero =>
    intro i x4 o5 u hi e4 tu wu su
    refine kjZ_y rfl rfl 3 _ _ _ _ tu ?_
    refine And.intro (fun c => ?_) (fun c => ?_)
    · refine kjZ_y rfl rfl 1 _ _ _ _ tu ?_
      refine And.intro rfl (And.intro rfl ?_)
      exact ⟨rfl, wu, su⟩
    · refine absurd (show nI 4 ≤ x4 from ?_) c
      rw [e4, nle (by omega) (by omega)]; omega
  | succ f ih =>
    intro i x4 o5 u hi e4 tu wu su
    have v4 : vp_in x4 4 := by rw [e4]; exact vp_in_nI (by omega) (by decide)
    have c4 : x4.toNatClampNeg = i := by rw [e4]; exact nI_clamp (by omega)
    have ef : u.2.2.1 11 x4.toNatClampNeg = some (12 + 9 * i) := by rw [c4]; exact tu.2.2.2.2.2.2.2.2.2 i (by omega)
    have hc : 12 + 9 * i ∈ [12, 21, 30, 39] := by
      have : i = 0 ∨ i = 1 ∨ i = 2 ∨ i = 3 := by omega
      rcases this with z | z | z | z <;> rw [z] <;> decide
    have kc : (u.2.2.2.1 (12 + 9 * i)).1 = 1 := by
      have q : ∀ c ∈ [12, 21, 30, 39], c < 76 ∧ (kd0 c).1 = 1 := by decide +kernel
      exact tu.k (q _ hc).1 (q _ hc).2
    refine kjZ_y rfl rfl 3 _ _ _ _ tu ?_
    refine And.intro (fun c => ?_) (fun c => ?_)
    · refine absurd (show nI 4 ≤ x4 from c) ?_
      rw [e4, nle (by omega) (by omega)]; omega
    refine kjZ_y rfl rfl 7 _ _ _ _ tu ?_
    refine (Or.inl (And.intro (Or.inl (tu.k (by decide) rfl)) (And.intro (kdw tu (by decide) rfl v4) (Exists.intro _ (And.intro ef (And.intro (Nat.le_of_ble_eq_true rfl) (And.intro (Nat.le_of_ble_eq_true rfl) (And.intro (Or.inl ⟨(Nat.le_of_ble_eq_true rfl), (by assumption)⟩) (And.intro (Nat.le_of_ble_eq_true rfl) (And.intro (Nat.le_of_ble_eq_true rfl) (kjY_mono tu (fun q_ u1 ty1 xu1 h_ => ?_) (kx_touched tu wu hc x1))))))))))))
    obtain ⟨rfl, w1, s1⟩ := h_
    intro _ _
    refine kjZ_y rfl rfl 2 _ _ _ _ ty1 ?_
    exact ih (i + 1) _ _ u1 (by omega) (by rw [e4]; exact nI_1 i) ty1 w1 (su.tr s1)
theorem kx_touch (ty : kTY σ) (w : KWd σ0 B σ ws nm ks) (x1 : Int32) : kjY kPP (kQQ Y) (d + 1) 139 0 (mjL0 6 [.ref 59, .int x1]) [] σ (wP σ0 B σ ws nm ks) := by
  refine kjZ_y rfl rfl 8 _ _ _ _ ty ?_
  refine (And.intro (ty.k (by decide) rfl) (And.intro (Nat.le_of_ble_eq_true rfl) (Or.inl (And.intro (kdr ty (by decide) rfl) (And.intro (Nat.le_of_ble_eq_true rfl) (And.intro (Nat.le_of_ble_eq_true rfl) ?_))))))
  have e : nI (σ.2.2.2.1 11).2 = nI 4 := by rw [ty.kl (h := 11) (c := (24, 4)) (by decide) rfl]
  have k := kx_touch_l (Y := Y) (d := d) (σ := σ) ty x1 4 0 (Int32.ofInt 0) none σ rfl rfl ty w SCl.rf
  rw [← e] at k
  exact k
end KKEYS
