/-! What a command does, as a function: the new list of keys, and the request that is logged for it. -/
section SPEC
variable {Y : Nat → MethodName × ByteArray} {d : Nat}
def gw (ws : Req) (k : Nat) : List Int32 := ws.getD k []
theorem gw_at {ws : Req} {k : Nat} (h : k < ws.length) : ws[k]? = some (gw ws k) := by
  unfold gw; rw [List.getD_eq_getElem?_getD, List.getElem?_eq_getElem h]; rfl
/-- the new list, the logged command, its words behind the name -/
abbrev Eff : Type := Option (List AK × Nat × List (List Int32))
def nW (i : Nat) (ws : Req) (o : Option (List AK)) : Eff := o.map (fun A => (A, i, ws.drop 1))
def nsW (keep timed : Int32) (t : Int64) : List (List Int32) := if keep = 0 then (if timed = 0 then [] else [pXT, dec t]) else [kTT]
/-- a text is set, where it may be -/
def seF (go : Bool) (keep timed : Int32) (t now : Int64) (rp : Bool) (A : List AK) (w v : List Int32) : Eff :=
  if go = false then none else if (¬ timed = 0) ∧ t ≤ now ∧ rp = false then (match kyI A w with
    | some p => some (rmA A p, 22, [w])
    | none => none) else some (stA A w v keep timed t, 2, w :: v :: nsW keep timed t)
def goB (nx xx : Int32) (A : List AK) (w : List Int32) : Bool := (decide (nx = 0) || (kyI A w).isNone) && (decide (xx = 0) || (kyI A w).isSome)
/-- a time is given -/
def eiF (t now : Int64) (rp : Bool) (A : List AK) (w : List Int32) : Eff := match kyI A w with
  | none => none
  | some p => if t ≤ now ∧ rp = false then some (rmA A p, 22, [w]) else some (upA A p (exF t), 33, [w, dec t])
noncomputable def smX (i : Nat) (A : List AK) (r : List (List Int32)) : Option (List AK) := @ite _ (i = 10 ∧ mxA A r) (Classical.propDecidable _) none (some (msA A r))
/-- the commands that change what is kept, by the words alone -/
noncomputable def coF (i : Nat) (ws : Req) (A : List AK) : Option (List AK) := match i with
  | 9 => smX 9 A (ws.drop 1)
  | 10 => smX 10 A (ws.drop 1)
  | 11 => apF A (gw ws 1) (gw ws 2)
  | 14 => (srR false (gw ws 2)).bind (fun n => srF A (gw ws 1) (gw ws 3) n.toInt.toNat)
  | 15 => icF A (gw ws 1) 15 0
  | 16 => icF A (gw ws 1) 16 0
  | 17 => (intF (gw ws 2)).bind (fun n => icF A (gw ws 1) 17 n)
  | 18 => (intF (gw ws 2)).bind (fun n => icF A (gw ws 1) 18 n)
  | 19 => (sbR (gw ws 2) (gw ws 3)).bind (fun q => sbF A (gw ws 1) q.1.toInt.toNat q.2)
  | 22 => delF A (ws.drop 1)
  | 25 => reF A (gw ws 1) (gw ws 2) 25
  | 26 => reF A (gw ws 1) (gw ws 2) 26
  | 29 => flF A
  | 34 => peF A (gw ws 1)
  | 37 => puF A (gw ws 1) 37 (ws.drop 2)
  | 38 => puF A (gw ws 1) 38 (ws.drop 2)
  | 39 => puF A (gw ws 1) 39 (ws.drop 2)
  | 40 => puF A (gw ws 1) 40 (ws.drop 2)
  | 41 => (ppR ws).bind (fun n => popF A (gw ws 1) 41 n.toInt.toNat)
  | 42 => (ppR ws).bind (fun n => popF A (gw ws 1) 42 n.toInt.toNat)
  | 46 => (intF (gw ws 2)).bind (fun n => lpF A (gw ws 1) 46 n (gw ws 3))
  | 47 => if isF (gw ws 2) 72865299780165 = 1 ∨ isF (gw ws 2) 280352802130 = 1 then liF A (gw ws 1) (gw ws 2) (gw ws 3) (gw ws 4) else none
  | 48 => (intF (gw ws 2)).bind (fun n => lrF A (gw ws 1) n (gw ws 3))
  | 49 => (twF (gw ws 2) (gw ws 3)).bind (fun q => trF A (gw ws 1) q.1 q.2)
  | 50 => if (siD (gw ws 3) && siD (gw ws 4)) = true then mvF A (gw ws 1) (gw ws 2) (mvFl 50 (gw ws 3)) (mvTl 50 (gw ws 4)) else none
  | 51 => mvF A (gw ws 1) (gw ws 2) 0 1
  | 52 => hsF A (gw ws 1) 52 (ws.drop 2) (gw ws 2) (mbT A (gw ws 1) (gw ws 2))
  | 53 => hsF A (gw ws 1) 53 (ws.drop 2) (gw ws 2) (mbT A (gw ws 1) (gw ws 2))
  | 56 => rvF A (gw ws 1) 56 (ws.drop 2)
  | 63 => (intF (gw ws 3)).bind (fun n => hiF A (gw ws 1) (gw ws 2) n)
  | 64 => saF A (gw ws 1) (ws.drop 2)
  | 65 => rvF A (gw ws 1) 65 (ws.drop 2)
  | 70 => smF A (gw ws 1) (gw ws 2) (gw ws 3)
  | 74 => rrF A (gw ws 1) (rkM 0 A ws 2)
  | 75 => rrF A (gw ws 1) (rkM 1 A ws 2)
  | 76 => rrF A (gw ws 1) (rkM 2 A ws 2)
  | 77 => spF A (gw ws 1)
  | 78 => (zoR ws).bind (fun q => zdF q.1.1 q.1.2.1 q.1.2.2.1 q.1.2.2.2.1 q.1.2.2.2.2.2 A (gw ws 1) q.2)
  | 79 => rvF A (gw ws 1) 79 (ws.drop 2)
  | 81 => (intF (gw ws 2)).bind (fun n => ziF A (gw ws 1) (gw ws 3) n)
  | 90 => (twF (gw ws 2) (gw ws 3)).bind (fun q => zcF A (gw ws 1) 90 q.1 q.2 0 0 0)
  | 91 => (bsF (gw ws 2) (gw ws 3)).bind (fun q => zcF A (gw ws 1) 91 0 0 q.2.2 q.1 q.2.1)
  | 92 => (ppR ws).bind (fun n => zpF A (gw ws 1) 92 n.toInt.toNat)
  | 93 => (ppR ws).bind (fun n => zpF A (gw ws 1) 93 n.toInt.toNat)
  | _ => none
/-- the commands that look at the clock -/
def tiX (i : Nat) (ws : Req) (now : Int64) (rp : Bool) (A : List AK) : Eff := match i with
  | 3 => if kyI A (gw ws 1) = none then none else some (delA A (gw ws 1), 22, [gw ws 1])
  | 4 => seF true 0 0 0 now rp A (gw ws 1) (gw ws 2)
  | 5 => seF (kyI A (gw ws 1)).isNone 0 0 0 now rp A (gw ws 1) (gw ws 2)
  | 6 => (tiR true 0 now (gw ws 2)).bind (fun t => seF true 0 1 t now rp A (gw ws 1) (gw ws 3))
  | 7 => (tiR true 1 now (gw ws 2)).bind (fun t => seF true 0 1 t now rp A (gw ws 1) (gw ws 3))
  | 30 => (tiR false 0 now (gw ws 2)).bind (fun t => eiF t now rp A (gw ws 1))
  | 31 => (tiR false 1 now (gw ws 2)).bind (fun t => eiF t now rp A (gw ws 1))
  | 32 => (tiR false 2 now (gw ws 2)).bind (fun t => eiF t now rp A (gw ws 1))
  | 33 => (tiR false 3 now (gw ws 2)).bind (fun t => eiF t now rp A (gw ws 1))
  | _ => none
abbrev tiI : List Nat := [3, 4, 5, 6, 7, 30, 31, 32, 33]
noncomputable def rnF (i : Nat) (ws : Req) (now : Int64) (rp : Bool) (A : List AK) : Eff :=
  if i = 2 then (osR ws now).bind (fun q => if sfB 2 q.1.2.2.1 ws A = true then seF (goB q.1.1 q.1.2.1 A (gw ws 1)) q.1.2.2.2 (if q.2.isSome then 1 else 0) (q.2.getD 0) now rp A (gw ws 1) (gw ws 2) else none)
  else if sfB i 0 ws A = true then (if i ∈ tiI then tiX i ws now rp A else nW i ws (coF i ws A)) else none
noncomputable def rnE (σ : mjS) (ks : List KR) (i : Nat) (ws : Req) : Eff := @ite _ (refP σ ks i) (Classical.propDecidable _) none (rnF i ws (σ.2.1 f_now0) (decide (¬ σ.1 f_replays = 0)) (strip ks))
/-- what is pending behind it, the list behind it -/
def rnL (σ : mjS) (l : List Int32) : Eff → List Int32
  | none => l
  | some (_, j, as) => if σ.1 f_replays = 0 then l ++ begL σ l (lN (as.length + 1)) j ++ wordsL as else l
def efA (A : List AK) : Eff → List AK
  | none => A
  | some (A', _, _) => A'
def rnK (σ : mjS) (ws : Req) (ks : List KR) (l : List Int32) (e : Eff) : mjK := fun r u => r = none ∧ Fr cF cH σ u ∧ ∃ ks', Wd u ws ks' (rnL σ l e) ∧ strip ks' = efA (strip ks) e
theorem rnK_no {σ u : mjS} {ws : Req} {ks : List KR} {l : List Int32} {e : Eff} (f : Fr cF cH σ u) (h : Wd u ws ks l) (he : e = none) : rnK σ ws ks l e none u := by
  subst he; exact ⟨rfl, f, ks, h, rfl⟩
theorem rnK_cmd {σ u v : mjS} {ws : Req} {ks : List KR} {l : List Int32} {i : Nat} {o : Option (List AK)} {e : Eff} {r : Option Value} (f : Fr opFs oH σ u) (hw : 1 ≤ ws.length) (k : cmdK u ws ks l i o r v) (he : e = nW i ws o) : rnK σ ws ks l e r v := by
  obtain ⟨hr, f2, ks', k⟩ := k
  subst he
  cases o with
  | none => exact ⟨hr, f.op.tr f2, ks', k⟩
  | some A =>
    refine ⟨hr, f.op.tr f2, ks', ?_, k.2⟩
    have k1 := k.1
    rw [ntA_fr f.op] at k1
    unfold ntA at k1
    show Wd v ws ks' (if σ.1 f_replays = 0 then l ++ begL σ l (lN ((ws.drop 1).length + 1)) i ++ wordsL (ws.drop 1) else l)
    rw [List.length_drop, show ws.length - 1 + 1 = ws.length by omega]; exact k1
/-- names rising; scores rising, names rising where scores are equal -/
def SP (es : List AE) : Prop := es.Pairwise (fun a b => cmpW a.1 b.1 < 0)
def ZP (es : List AE) : Prop := es.Pairwise (fun a b => (a.2.2 < b.2.2 ∨ (a.2.2 = b.2.2 ∧ cmpW a.1 b.1 < 0)) ∧ ¬ cmpW a.1 b.1 = 0)
/-- a word: bytes, at most 16384 -/
def WOK (w : List Int32) : Prop := w.length ≤ 16384 ∧ ∀ x ∈ w, x.toInt8.toInt32 = x
/-- the elements of a sort -/
def ELS (s : Int32) (es : List AE) : Prop := (∀ z ∈ es, WOK z.1 ∧ z.2.1.length ≤ 16384) ∧ (s = 0 → es = []) ∧ (s = 1 → ∀ z ∈ es, z.2 = ([], 0)) ∧ (s = 2 → SP es ∧ ∀ z ∈ es, z.2.2 = 0) ∧ (s = 3 → SP es ∧ ∀ z ∈ es, z.2 = ([], 0)) ∧ (s = 4 → ZP es ∧ ∀ z ∈ es, z.2.1 = [])
def TOK (timed : Int32) (t : Int64) : Prop := (timed = 0 ∧ t = 0) ∨ (timed = 1 ∧ 1 ≤ t ∧ t ≤ LAT)
/-- well made keys -/
def AOK (a : AK) : Prop := WOK a.1 ∧ a.2.2.2.2.1.length ≤ 16384 ∧ ELS a.2.1 a.2.2.2.2.2 ∧ ((¬ a.2.1 = 0) → a.2.2.2.2.2 ≠ [] ∧ a.2.2.2.2.1 = []) ∧ TOK a.2.2.1 a.2.2.2.1 ∧ (a.2.1 = 0 ∨ a.2.1 = 1 ∨ a.2.1 = 2 ∨ a.2.1 = 3 ∨ a.2.1 = 4)
def IA (A : List AK) : Prop := SRT A ∧ ∀ a ∈ A, AOK a
/-- the room that a command wants -/
def BD (σ : mjS) (i : Nat) (ws : Req) (ks : List KR) (l : List Int32) : Prop := tT (strip ks) + sl ws + (gw ws 1).length ≤ 200000 ∧ eN (strip ks) + ws.length < 10000 ∧ ks.length + ws.length < 4700 ∧ l.length + 700 + sz ws ≤ 420000 ∧ memA ks < 2 ^ 30 ∧ IA (strip ks) ∧ (∀ w ∈ ws, WOK w) ∧ (71 ≤ i ∧ i ≤ 73 → sfB i 0 ws (strip ks) = true → (rkM (i - 71) (strip ks) ws 1).length ≤ 10000 ∧ sl (rkM (i - 71) (strip ks) ws 1) ≤ 200000) ∧ (74 ≤ i ∧ i ≤ 76 → ¬ refP σ ks i → sfB i 0 ws (strip ks) = true → eN (strip ks) + (rkM (i - 74) (strip ks) ws 2).length < 10000 ∧ tT (strip ks) + (gw ws 1).length + sl (rkM (i - 74) (strip ks) ws 2) ≤ 200000)
theorem gw_mem {ws : Req} {k : Nat} (h : k < ws.length) : gw ws k ∈ ws := List.mem_of_getElem? (gw_at h)
theorem gw_sl (ws : Req) (k : Nat) : (gw ws k).length ≤ sl ws := by
  by_cases h : k < ws.length
  · have := sl_get (gw_at h); omega
  · unfold gw; rw [List.getD_eq_getElem?_getD, List.getElem?_eq_none (by omega)]; exact Nat.zero_le _
theorem gw_sl2 {ws : Req} {j k : Nat} (h : j < k) (hk : k < ws.length) : (gw ws j).length + (gw ws k).length ≤ sl ws := by
  have h1 := sl_get (gw_at (show j < ws.length by omega))
  have h2 : (gw ws k).length ≤ sl (ws.drop (j + 1)) := by
    have e : (ws.drop (j + 1))[k - (j + 1)]? = some (gw ws k) := by rw [List.getElem?_drop, show j + 1 + (k - (j + 1)) = k by omega]; exact gw_at hk
    have := sl_get e; omega
  omega
theorem sl_sz (ws : Req) : sl ws ≤ sz ws := by
  induction ws with
  | nil => exact Nat.zero_le _
  | cons w r ih => rw [sz_cons]; show w.length + sl r ≤ _; omega
theorem IA.tx {A : List AK} (h : IA A) (w : List Int32) : (txA A w).length ≤ 16384 := by
  unfold txA
  cases kyI A w with
  | none => exact Nat.zero_le _
  | some p =>
    show (match A[p]? with | some a => a.2.2.2.2.1 | none => []).length ≤ _
    cases e : A[p]? with
    | none => exact Nat.zero_le _
    | some a => exact (h.2 a (List.mem_of_getElem? e)).2.1
theorem soT_ne {A : List AK} {w : List Int32} {s : Int32} (h : soT A w s = true) {p : Nat} {a : AK} (hk : kyI A w = some p) (ha : A[p]? = some a) : a.2.1 = s := by
  unfold soT at h; rw [hk] at h
  have h : (match A[p]? with | some a => decide (a.2.1 = s) | none => true) = true := h
  rw [ha] at h
  exact of_decide_eq_true h
theorem IA.ne {A : List AK} (h : IA A) {w : List Int32} {s : Int32} (hs : ¬ s = 0) (hb : soT A w s = true) {p : Nat} {a : AK} (hk : kyI A w = some p) (ha : A[p]? = some a) : a.2.2.2.2.2 ≠ [] ∧ ∀ z ∈ a.2.2.2.2.2, z.1.length ≤ 70000 := by
  have ok := h.2 a (List.mem_of_getElem? ha)
  refine ⟨(ok.2.2.2.1 (by rw [soT_ne hb hk ha]; exact hs)).1, fun z hz => ?_⟩
  have := (ok.2.2.1.1 z hz).1.1; omega
/-- a read: whatever comes of it, nothing has changed -/
theorem c_runR {σ : mjS} {ws : List (List Int32)} {ks : List KR} {l : List Int32} {Q : mjS → Prop} {K : mjK} (ty : mjTY σ) (i1 : Nat) (hi : i1 < 128) {x : Int32} (ex : x = nI i1) (hm : memA ks < 2 ^ 30)
    (hw : (i1 < 22 ∨ (36 < i1 ∧ i1 < 94)) → 2 ≤ ws.length) (hw2 : (i1 = 50 ∨ i1 = 51 ∨ i1 = 70) → 3 ≤ ws.length)
    (ho : mjY mjPP (mjQQ Y) (d + 8) 72 0 (mjL0 2 [.ref 0, .int x]) [] σ (fun r u => ∃ b, opK σ ws ks l b Q r u))
    (hN : ∀ u, Fr cF cH σ u → Wd u ws ks l → K none u)
    (hG : ∀ u, mjTY u → Fr opFs oH σ u → Wd u ws ks l → Q u → mjY mjPP (mjQQ Y) (d + 9) 155 36 [some (.ref 0), some (.int x)] [] u K) :
    mjY mjPP (mjQQ Y) (d + 9) 155 0 (mjL0 2 [.ref 0, .int x]) [] σ K := by
  have vx : vp_in x 128 := by rw [ex]; exact vp_in_nI hi (by decide)
  refine mjZ_y rfl rfl 3 _ _ _ _ ty ?_
  refine (And.intro (Nat.le_of_ble_eq_true rfl) (And.intro rfl (And.intro (Nat.le_of_ble_eq_true rfl) (And.intro (Nat.le_of_ble_eq_true rfl) (mjY_mono ty (fun q_ u1 ty1 h_ => ?_) (ho))))))
  obtain ⟨b, rfl, f1, h1, q1⟩ := h_
  intro _
  cases b with
  | false =>
    refine mjZ_y rfl rfl 1 _ _ _ _ ty1 ?_
    refine And.intro (fun c => ?_) (fun c => ?_)
    · exact absurd rfl c
    · refine mjZ_y rfl rfl 1 _ _ _ _ ty1 ?_
      refine And.intro rfl (And.intro rfl ?_)
      exact hN u1 f1.op h1
  | true =>
    have q1 := q1 rfl
    have s23 : mjY mjPP (mjQQ Y) (d + 9) 155 23 [some (.ref 0), some (.int x)] [] u1 K := by
      refine mjZ_y rfl rfl 3 _ _ _ _ ty1 ?_
      refine (And.intro (Nat.le_of_ble_eq_true rfl) (And.intro rfl (And.intro (Nat.le_of_ble_eq_true rfl) (And.intro (Nat.le_of_ble_eq_true rfl) (mjY_mono ty1 (fun q_ u2 ty2 h_ => ?_) (c_sortsFit h1 ty1 i1 hi ex hw hw2 (fun z => hw (by omega))))))))
      obtain ⟨rfl, rfl⟩ := h_
      intro _
      refine mjZ_y rfl rfl 1 _ _ _ _ ty2 ?_
      refine And.intro (fun c => ?_) (fun c => ?_)
      · exact hG u2 ty2 f1 h1 q1
      · refine mjZ_y rfl rfl 3 _ _ _ _ ty2 ?_
        refine (And.intro (Nat.le_of_ble_eq_true rfl) (And.intro rfl (And.intro (Nat.le_of_ble_eq_true rfl) (And.intro (Nat.le_of_ble_eq_true rfl) (mjY_mono ty2 (fun q_ u3 ty3 h_ => ?_) (c_letters ty2 h1.2.2.2.1 _))))))
        obtain ⟨rfl, o3⟩ := h_
        intro _
        have h3 := h1.ans o3
        refine mjZ_y rfl rfl 3 _ _ _ _ ty3 ?_
        refine (And.intro (Nat.le_of_ble_eq_true rfl) (And.intro rfl (And.intro (Nat.le_of_ble_eq_true rfl) (And.intro (Nat.le_of_ble_eq_true rfl) (mjY_mono ty3 (fun q_ u4 ty4 h_ => ?_) (c_letters ty3 h3.2.2.2.1 _))))))
        obtain ⟨rfl, o4⟩ := h_
        intro _
        have h4 := h3.ans o4
        refine mjZ_y rfl rfl 2 _ _ _ _ ty4 ?_
        refine (And.intro (Nat.le_of_ble_eq_true rfl) (And.intro rfl (And.intro (Nat.le_of_ble_eq_true rfl) (And.intro (Nat.le_of_ble_eq_true rfl) (mjY_mono ty4 (fun q_ u5 ty5 h_ => ?_) (c_line ty4 h4.2.2.2.1))))))
        obtain ⟨rfl, o5⟩ := h_
        intro _
        refine mjZ_y rfl rfl 1 _ _ _ _ ty5 ?_
        refine And.intro rfl (And.intro rfl ?_)
        exact hN u5 (((f1.op.tr o3.c).tr o4.c).tr o5.c) (h4.ans o5)
    refine mjZ_y rfl rfl 1 _ _ _ _ ty1 ?_
    refine And.intro (fun c => ?_) (fun c => ?_)
    · refine mjZ_y rfl rfl 5 _ _ _ _ ty1 ?_
      refine (And.intro rfl (And.intro (Or.inr rfl) (And.intro vx (And.intro (fun a => ?_) (fun a => ?_)))))
      · exact s23
      · refine mjZ_y rfl rfl 3 _ _ _ _ ty1 ?_
        refine (And.intro rfl (And.intro (fun e => ?_) (fun e => ?_)))
        · exact s23
        · refine mjZ_y rfl rfl 2 _ _ _ _ ty1 ?_
          refine (And.intro (Nat.le_of_ble_eq_true rfl) (And.intro rfl (And.intro (Nat.le_of_ble_eq_true rfl) (And.intro (Nat.le_of_ble_eq_true rfl) (mjY_mono ty1 (fun q_ u2 ty2 h_ => ?_) (memA_fit h1 hm ty1))))))
          obtain ⟨rfl, rfl⟩ := h_
          intro _
          refine mjZ_y rfl rfl 2 _ _ _ _ ty2 ?_
          refine And.intro (fun g => ?_) (fun g => ?_)
          · exact s23
          · refine mjZ_y rfl rfl 3 _ _ _ _ ty2 ?_
            refine (And.intro (Nat.le_of_ble_eq_true rfl) (And.intro rfl (And.intro (Nat.le_of_ble_eq_true rfl) (And.intro (Nat.le_of_ble_eq_true rfl) (mjY_mono ty2 (fun q_ u3 ty3 h_ => ?_) (c_letters ty2 h1.2.2.2.1 _))))))
            obtain ⟨rfl, o3⟩ := h_
            intro _
            have h3 := h1.ans o3
            refine mjZ_y rfl rfl 2 _ _ _ _ ty3 ?_
            refine (And.intro (Nat.le_of_ble_eq_true rfl) (And.intro rfl (And.intro (Nat.le_of_ble_eq_true rfl) (And.intro (Nat.le_of_ble_eq_true rfl) (mjY_mono ty3 (fun q_ u4 ty4 h_ => ?_) (c_line ty3 h3.2.2.2.1))))))
            obtain ⟨rfl, o4⟩ := h_
            intro _
            refine mjZ_y rfl rfl 1 _ _ _ _ ty4 ?_
            refine And.intro rfl (And.intro rfl ?_)
            exact hN u4 ((f1.op.tr o3.c).tr o4.c) (h3.ans o4)
    · exact absurd (show ¬ (1 : Int32) = 0 by decide) c
end SPEC
