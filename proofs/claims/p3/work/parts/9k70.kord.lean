/-! Orders: a key opened and closed; a member's place among the names. -/
def nmC (v : List Int32) (es : List AE) : Nat := es.countP (fun z => decide (cmpW z.1 v < 0))
def nmF (v : List Int32) (es : List AE) : Bool := es.any (fun z => decide (z.1 = v))
theorem skI_cnt {v : List Int32} : ∀ {fs : List AE}, SP fs → skI v fs = nmC v fs := by
  intro fs
  induction fs with
  | nil => intro _; rfl
  | cons a r ih =>
    intro h
    obtain ⟨p1, p2⟩ := List.pairwise_cons.mp h
    have hi := ih p2
    unfold nmC at *
    by_cases c : cmpW a.1 v < 0
    · have e : skI v (a :: r) = skI v r + 1 := if_pos c
      rw [e, hi, List.countP_cons, if_pos (decide_eq_true c)]
    · have e : skI v (a :: r) = 0 := if_neg c
      rw [e, List.countP_cons, if_neg (by rw [decide_eq_false c]; exact Bool.false_ne_true), Nat.add_zero]
      refine (List.countP_eq_zero.mpr (fun z hz => ?_)).symm
      rw [decide_eq_true_iff]
      exact fun q => c (cmpW_trans _ _ _ (p1 z hz) q)
theorem skT_any {v : List Int32} {fs : List AE} (h : SP fs) (hv : B8 v) (he : ∀ z ∈ fs, B8 z.1) : skT v fs = nmF v fs := by
  have hiff : skT v fs = true ↔ nmF v fs = true := by
    rw [skT_in h hv he]
    unfold nmF nmE
    rw [List.any_eq_true]
    exact ⟨fun ⟨z, h1, h2⟩ => ⟨z, h1, decide_eq_true h2⟩, fun ⟨z, h1, h2⟩ => ⟨z, h1, of_decide_eq_true h2⟩⟩
  cases h1 : skT v fs <;> cases h2 : nmF v fs
  · rfl
  · rw [hiff.mpr h2] at h1; cases h1
  · rw [hiff.mp h1] at h2; cases h2
  · rfl
section KORD
variable {Y : Nat → MethodName × ByteArray} {d : Nat} {σ0 σ u : kS} {B ws nm nm' : List (List Int32)} {ks : List KC}
/-- an order, opened -/
theorem KWd.o4 {P Q : List KC} {x : KC} (w : KWd σ0 B σ ws nm (P ++ x :: Q)) (hsort : x.2.2.2.2.2.2.1 = 4) : ∃ fr vs e q0 q1 q2 q3 fs, RST σ ((P ++ x :: Q).map (fun x => x.2.1)) ((P ++ x :: Q).map (fun x => x.2.2.1) ++ fr) vs (cSum (P ++ x :: Q)) (tSum (P ++ x :: Q)) ∧ STV nm (P ++ x :: Q) fr vs ∧ vs[x.2.2.1]? = some (x.1, 4, x.2.2.2.2.2.2.2.2.2.2.length, x.2.2.2.1, x.2.2.2.2.1, e, [], [q0, q1, q2, q3]) ∧ (e = endE x.2.2.2.2.2 ∧ x.2.2.2.2.2.2.2.2.2.1 = []) ∧ (IDL nm q1 (x.2.2.2.2.2.2.2.2.2.2.map (fun z => z.1)) ∧ q3 = x.2.2.2.2.2.2.2.2.2.2.map (fun z => z.2.2) ∧ IDL nm q0 (fs.map (fun z => z.1)) ∧ q2 = fs.map (fun z => z.2.2) ∧ fs.Perm x.2.2.2.2.2.2.2.2.2.2 ∧ SP fs) ∧ σ.2.2.2.1 x.1 = (11, 0) ∧ σ.1 x.1 6 = nI x.2.2.2.2.2.2.2.2.2.2.length ∧ x.2.2.2.2.2.2.2.2.2.2.length ≤ 131072 ∧ σ.1 x.1 4 = x.2.2.2.1 := by
  obtain ⟨fr, vs, k0, n0, e0, t0, cs0, hR, hV, a1, hav, hd, ht, s6, hn6, s4⟩ := w.op_
  obtain ⟨b1, b2, b3, b4, b5, b6⟩ := hav
  have b1 : x.2.2.2.2.2.2.1 = nI k0 := b1
  have hk1 : k0 = 4 := by
    rw [hsort] at b1
    exact ((nI_eq (a := 4) (by decide) (by have : k0 ≤ 4 := b2; omega)).mp b1).symm
  subst hk1
  have ht0 := ht (by decide)
  subst ht0
  have b5 : n0 = x.2.2.2.2.2.2.2.2.2.2.length := b5
  subst b5
  obtain ⟨q0, q1, q2, q3, fs, hq, h1⟩ := b6.2.2.2 rfl
  have hq : cs0 = [q0, q1, q2, q3] := hq
  subst hq
  exact ⟨fr, vs, e0, q0, q1, q2, q3, fs, hR, hV, a1, ⟨b3, b4.symm⟩, h1, hd, s6, hn6, s4⟩
/-- an order, closed -/
theorem KW0.o4 {P Q : List KC} {x : KC} (w : KW0 σ0 B u ws nm) {fr : List Nat} {vs : List VR} (hV : STV nm (P ++ x :: Q) fr vs) (hnd : ((P ++ x :: Q).map (fun x => x.2.2.1) ++ fr).Nodup) (hsort : x.2.2.2.2.2.2.1 = 4) (ht : x.2.2.2.2.2.2.2.2.2.1 = []) (g : List AE → List AE) {q0 q1 q2 q3 : List Int64} {fs : List AE} (h1 : IDL nm q1 ((g x.2.2.2.2.2.2.2.2.2.2).map (fun z => z.1))) (h3 : q3 = (g x.2.2.2.2.2.2.2.2.2.2).map (fun z => z.2.2)) (h0 : IDL nm q0 (fs.map (fun z => z.1))) (h2 : q2 = fs.map (fun z => z.2.2)) (hp : fs.Perm (g x.2.2.2.2.2.2.2.2.2.2)) (hs : SP fs)
    (m1 : RST u ((P ++ x :: Q).map (fun x => x.2.1)) ((P ++ x :: Q).map (fun x => x.2.2.1) ++ fr) (vs.set x.2.2.1 (x.1, 4, (g x.2.2.2.2.2.2.2.2.2.2).length, nI (wtC (esF g x.2.2.2.2.2)), x.2.2.2.2.1, endE x.2.2.2.2.2, [], [q0, q1, q2, q3])) (cSum (P ++ x :: Q)) (tSum (P ++ x :: Q))) : KWd σ0 B u ws nm (P ++ mkK x (esF g x.2.2.2.2.2) :: Q) :=
  w.cl hV hnd (k := 4) (n := (g x.2.2.2.2.2.2.2.2.2.2).length) (e := endE x.2.2.2.2.2) (t := []) (cs := [q0, q1, q2, q3]) rfl ⟨hsort, (show (4 : Nat) ≤ 4 by decide), rfl, ht.symm, rfl, ⟨fun z => absurd z (show ¬ (4 : Nat) = 0 by decide), fun z => absurd z (show ¬ ((4 : Nat) = 1 ∨ (4 : Nat) = 3) by decide), fun z => absurd z (show ¬ (4 : Nat) = 2 by decide), fun _ => ⟨q0, q1, q2, q3, fs, rfl, h1, h3, h0, h2, hp, hs⟩⟩⟩ rfl m1
/-- where a member stands among the names -/
theorem kx_plO (ty : kTY σ) {P Q : List KC} {x : KC} (w : KWd σ0 B σ ws nm (P ++ x :: Q)) (hs : x.2.2.2.2.2.2.1 = 4) {kw : Nat} {v : List Int32} (hk : nm[kw]? = some v) (x2 : Int32) (e2 : x2 = nI kw) : kjY kPP (kQQ Y) (d + 2) 145 0 (mjL0 7 [.ref 59, .ref x.1, .int x2]) [] σ (fun p u => u = σ ∧ p = some (.int (if nmF v x.2.2.2.2.2.2.2.2.2.2 = true then nI (nmC v x.2.2.2.2.2.2.2.2.2.2) else -1 - nI (nmC v x.2.2.2.2.2.2.2.2.2.2)))) := by
  obtain ⟨fr, vs, e0, q0, q1, q2, q3, fs, hR, hV, a1, ⟨b3, b4⟩, ⟨c1, c3, c0, c2, hp, hsp⟩, hd, s6, hn6, s4⟩ := w.o4 hs
  refine kjY_mono ty (fun r u _ _ h => ?_) (kx_placeOf ty w.2.2.1.1 hR a1 (show ¬ (4 : Nat) = 0 by decide) (q := q0) rfl c0 (SP_N hsp) (by rw [List.length_map]; exact hp.length_eq) hk x2 e2)
  refine ⟨h.1, ?_⟩
  rw [h.2, fd_sk hsp]
  unfold skR
  have e1 : nmC v fs = nmC v x.2.2.2.2.2.2.2.2.2.2 := hp.countP_eq _
  have e2 : nmF v fs = nmF v x.2.2.2.2.2.2.2.2.2.2 := by
    unfold nmF; exact hp.any_eq
  have hw := w.2.2.1.1
  have he : ∀ z ∈ fs, B8 z.1 := fun z hz => by
    obtain ⟨i, hi, g⟩ := List.mem_iff_getElem.mp hz
    obtain ⟨k9, -, g2⟩ := c0.2 i z.1 (by rw [List.getElem?_map, List.getElem?_eq_getElem hi, g]; rfl)
    exact hw.b8 ty g2
  rw [skT_any hsp (hw.b8 ty hk) he, skI_cnt hsp, e1, e2]
end KORD
