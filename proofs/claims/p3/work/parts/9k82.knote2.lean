/-! What a change notes in the log, whole. -/
def hdN (n : Nat) : List Int32 := 42 :: dec (lN n) ++ [13, 10]
theorem encR_hd (q : Req) : encR q = hdN q.length ++ wordsL q := rfl
/-- what a text's new value is noted as -/
def nsC (kp : Int32) (t : Int64) (w1 wv : List Int32) : Req := [tb 9, w1, wv] ++ (if kp = 0 then (if t = NEV then [] else [tb 11, dec t]) else [tb 10])
/-- what is noted -/
def ntC (fm kp : Int32) (t : Int64) (j : Nat) (ws : Req) (w1 wv : List Int32) : Req := if fm = 1 then nsC kp t w1 wv else if fm = 2 then [tb 6, w1, dec t] else if fm = 3 then [tb 7, w1] else tb (txC j) :: ws.drop 1
section KNOTE2
variable {Y : Nat → MethodName × ByteArray} {d : Nat} {σ u : kS} {B ws nm nm' : List (List Int32)} {ks ks' : List KC}
theorem J_fld (ts : kTY σ) {b : Nat} (hb : b ∈ [5, 7]) (hu : Ch false (jnF b) [(b, 1)] σ u) {h x c : Nat} (hh : h < 76) (hc : (kd0 h).1 = c) (hc2 : c < 11) (hn : ¬ h = b) : u.1 h x = σ.1 h x ∧ u.2.1 h x = σ.2.1 h x ∧ u.2.2.1 h x = σ.2.2.1 h x :=
  hu.fld ts hh hc hc2 (fun z => by
    have f1 : ∀ q ∈ jnF b, q.1 = b := by unfold jnF; simp
    exact hn (f1 _ z))
theorem J_tr (ts : kTY σ) {b : Nat} (hb : b ∈ [5, 7]) {u v : kS} (a : Ch false (jnF b) [(b, 1)] σ u) (c : Ch false (jnF b) [(b, 1)] u v) : Ch false (jnF b) [(b, 1)] σ v := Ch.tr ts (fun q hq => by rw [List.mem_singleton.mp hq]; exact ow_b (J_ok b hb).1) a c
theorem kx_noteSet (ty : kTY σ) (g : KO B σ ws nm ks) {b : Nat} (hb : b ∈ [5, 7]) {l : List Int32} (j : JN b σ l) (h10 : σ.2.2.1 0 10 = some b) {w1 wv : List Int32} (h1 : ws[1]? = some w1) {n : Nat} (hn : σ.1 53 14 = nI n) (h2 : ws[n]? = some wv) (hlen : (l ++ encR (nsC (σ.1 53 15) (σ.2.1 53 16) w1 wv)).length ≤ 210000) :
    kjY kPP (kQQ Y) (d + 7) 30 0 (mjL0 2 [.ref 0]) [] σ (jP B b σ ws nm ks (l ++ encR (nsC (σ.1 53 15) (σ.2.1 53 16) w1 wv))) := by
  obtain ⟨b1, -, b3, b4, -⟩ := J_ok b hb
  have f10 : ∀ u, Ch false (jnF b) [(b, 1)] σ u → u.2.2.1 0 10 = some b := fun u hu => by rw [(J_fld ty hb hu (h := 0) (x := 10) (c := 9) (by decide) rfl (by decide) (fun z => b4 z.symm)).2.2]; exact h10
  have f53 : ∀ u, Ch false (jnF b) [(b, 1)] σ u → ∀ x, u.1 53 x = σ.1 53 x ∧ u.2.1 53 x = σ.2.1 53 x := fun u hu x => by
    have := J_fld ty hb hu (h := 53) (x := x) (c := 3) (by decide) rfl (by decide) (fun z => b3 z.symm)
    exact ⟨this.1, this.2.1⟩
  -- behind the head
  have mid : ∀ (N : Nat) (T : Req) (x1 : Int32) (u : kS), nsC (σ.1 53 15) (σ.2.1 53 16) w1 wv = [tb 9, w1, wv] ++ T → N = 3 + T.length → kTY u → KO B u ws nm ks → JN b u (l ++ hdN N) → Ch false (jnF b) [(b, 1)] σ u →
      (∀ z, kTY z → KO B z ws nm ks → JN b z (l ++ hdN N ++ wordL (tb 9) ++ wordL w1 ++ wordL wv) → Ch false (jnF b) [(b, 1)] σ z → (l ++ hdN N ++ wordL (tb 9) ++ wordL w1 ++ wordL wv).length + (wordsL T).length ≤ 210000 → l ++ encR (nsC (σ.1 53 15) (σ.2.1 53 16) w1 wv) = l ++ hdN N ++ wordL (tb 9) ++ wordL w1 ++ wordL wv ++ wordsL T → kjY kPP (kQQ Y) (d + 7) 30 42 [some (.ref 0), some (.int x1)] [] z (jP B b σ ws nm ks (l ++ encR (nsC (σ.1 53 15) (σ.2.1 53 16) w1 wv)))) →
      kjY kPP (kQQ Y) (d + 7) 30 24 [some (.ref 0), some (.int x1)] [] u (jP B b σ ws nm ks (l ++ encR (nsC (σ.1 53 15) (σ.2.1 53 16) w1 wv))) := by
    intro N T x1 u hq hN tu gu ju hu hK
    have eL : l ++ encR (nsC (σ.1 53 15) (σ.2.1 53 16) w1 wv) = l ++ hdN N ++ wordL (tb 9) ++ wordL w1 ++ wordL wv ++ wordsL T := by
      rw [encR_hd, hq]
      show l ++ (hdN (T.length + 3) ++ wordsL (tb 9 :: w1 :: wv :: T)) = _
      rw [Nat.add_comm T.length 3, ← hN, wdsL_cons, wdsL_cons, wdsL_cons]
      simp only [List.append_assoc]
    have hll := hlen
    rw [eL, List.length_append] at hll
    have hl3 := hll
    rw [List.length_append, List.length_append, List.length_append] at hl3
    have kb := ob_k tu b1
    have i10 := f10 u hu
    refine kjZ_y rfl rfl 4 _ _ _ _ tu ?_
    refine (And.intro (tu.k (by decide) rfl) (Exists.intro _ (And.intro i10 (And.intro rfl (And.intro (Nat.le_of_ble_eq_true rfl) (And.intro (Or.inl ⟨(Nat.le_of_ble_eq_true rfl), (by assumption)⟩) (And.intro (Nat.le_of_ble_eq_true rfl) (And.intro (Nat.le_of_ble_eq_true rfl) (kjY_mono tu (fun q_ u1 ty1 xu1 h_ => ?_) (j_text (d := d) tu gu hb ju (i := 9) (by decide) (by omega)))))))))))
    obtain ⟨rfl, g1, j1, c1⟩ := h_
    intro _ _
    have hu1 := J_tr ty hb hu c1
    have i101 := f10 u1 hu1
    have kb1 := ob_k ty1 b1
    refine kjZ_y rfl rfl 6 _ _ _ _ ty1 ?_
    refine (And.intro (ty1.k (by decide) rfl) (And.intro (ty1.k (by decide) rfl) (Exists.intro _ (And.intro i101 (And.intro (Nat.le_of_ble_eq_true rfl) (And.intro (Or.inl ⟨(Nat.le_of_ble_eq_true rfl), (ty1.k (by decide) rfl)⟩) (And.intro (Nat.le_of_ble_eq_true rfl) (And.intro (Nat.le_of_ble_eq_true rfl) (kjY_mono ty1 (fun q_ u2 ty2 xu2 h_ => ?_) (j_arg (d := d + 1) ty1 g1 hb j1 h1 _ rfl (by rw [List.length_append]; omega)))))))))))
    obtain ⟨rfl, g2, j2, c2⟩ := h_
    intro _ _
    have hu2 := J_tr ty hb hu1 c2
    have i102 := f10 u2 hu2
    have kb2 := ob_k ty2 b1
    refine kjZ_y rfl rfl 8 _ _ _ _ ty2 ?_
    refine (And.intro (ty2.k (by decide) rfl) (And.intro (ty2.k (by decide) rfl) (And.intro (ty2.k (by decide) rfl) (And.intro (ty2.k (by decide) rfl) (Exists.intro _ (And.intro i102 (And.intro (Nat.le_of_ble_eq_true rfl) (And.intro (Or.inl ⟨(Nat.le_of_ble_eq_true rfl), (ty2.k (by decide) rfl)⟩) (And.intro (Nat.le_of_ble_eq_true rfl) (And.intro (Nat.le_of_ble_eq_true rfl) (kjY_mono ty2 (fun q_ u3 ty3 xu3 h_ => ?_) (j_arg (d := d + 1) ty2 g2 hb j2 h2 _ (by show u2.1 53 14 = _; rw [(f53 u2 hu2 14).1]; exact hn) (by rw [List.length_append, List.length_append]; omega)))))))))))))
    obtain ⟨rfl, g3, j3, c3⟩ := h_
    intro _ _
    exact hK u3 ty3 g3 j3 (J_tr ty hb hu2 c3) hll eL
  -- the number of words
  have s23 : ∀ (N : Nat) (T : Req) (x1 xn : Int32), xn = nI N → nsC (σ.1 53 15) (σ.2.1 53 16) w1 wv = [tb 9, w1, wv] ++ T → N = 3 + T.length → N ≤ 5 →
      (∀ z, kTY z → KO B z ws nm ks → JN b z (l ++ hdN N ++ wordL (tb 9) ++ wordL w1 ++ wordL wv) → Ch false (jnF b) [(b, 1)] σ z → (l ++ hdN N ++ wordL (tb 9) ++ wordL w1 ++ wordL wv).length + (wordsL T).length ≤ 210000 → l ++ encR (nsC (σ.1 53 15) (σ.2.1 53 16) w1 wv) = l ++ hdN N ++ wordL (tb 9) ++ wordL w1 ++ wordL wv ++ wordsL T → kjY kPP (kQQ Y) (d + 7) 30 42 [some (.ref 0), some (.int x1)] [] z (jP B b σ ws nm ks (l ++ encR (nsC (σ.1 53 15) (σ.2.1 53 16) w1 wv)))) →
      kjY kPP (kQQ Y) (d + 7) 30 23 [some (.ref 0), some (.int x1)] [.int xn, .ref b] σ (jP B b σ ws nm ks (l ++ encR (nsC (σ.1 53 15) (σ.2.1 53 16) w1 wv))) := by
    intro N T x1 xn exn hq hN hN5 hK
    have kb := ob_k ty b1
    have hl0 : l.length + (hdN N).length ≤ 210000 := by
      have e : l ++ encR (nsC (σ.1 53 15) (σ.2.1 53 16) w1 wv) = l ++ (hdN N ++ wordsL (nsC (σ.1 53 15) (σ.2.1 53 16) w1 wv)) := by
        rw [encR_hd, hq, hN]
        show l ++ (hdN (T.length + 3) ++ _) = _
        rw [Nat.add_comm T.length 3]
      rw [e, List.length_append, List.length_append] at hlen; omega
    have hJ : kjY kPP (kQQ Y) (d + 6) 60 0 (mjL0 2 [.ref b, .int xn]) [] σ (jP B b σ ws nm ks (l ++ hdN N)) := by
      refine kjY_mono ty (fun r z _ _ h => g.jr ty hb j h hl0) (k_rowHead (d := d + 1) ty g.1.1.1 b1 j.1 xn exn (by omega) (opQ_j hb g.1.1.2 l ?_))
      have : (hdN N).length = (dec (lN N)).length + 3 := by unfold hdN; rw [List.length_append, List.length_cons]; rfl
      omega
    refine kjZ_y rfl rfl 1 _ _ _ _ ty ?_
    refine (And.intro (Nat.le_of_ble_eq_true rfl) (And.intro (Or.inl ⟨(Nat.le_of_ble_eq_true rfl), (by assumption)⟩) (And.intro (Nat.le_of_ble_eq_true rfl) (And.intro (Nat.le_of_ble_eq_true rfl) (kjY_mono ty (fun q_ u1 ty1 xu1 h_ => ?_) (hJ))))))
    obtain ⟨rfl, g1, j1, c1⟩ := h_
    intro _ _
    exact mid N T x1 u1 hq hN ty1 g1 j1 c1 hK
  have kb := ob_k ty b1
  have s10 : ∀ x1 : Int32, ((x1 = 0 ∧ σ.2.1 53 16 = NEV) ∨ (x1 = 1 ∧ ¬ σ.2.1 53 16 = NEV)) → kjY kPP (kQQ Y) (d + 7) 30 10 [some (.ref 0), some (.int x1)] [] σ (jP B b σ ws nm ks (l ++ encR (nsC (σ.1 53 15) (σ.2.1 53 16) w1 wv))) := by
    intro x1 hx
    by_cases c15 : σ.1 53 15 = 0
    · rcases hx with ⟨hx, ht⟩ | ⟨hx, ht⟩
      · have hq : nsC (σ.1 53 15) (σ.2.1 53 16) w1 wv = [tb 9, w1, wv] ++ [] := by unfold nsC; rw [if_pos c15, if_pos ht]
        refine kjZ_y rfl rfl 6 _ _ _ _ ty ?_
        refine (And.intro (ty.k (by decide) rfl) (Exists.intro _ (And.intro h10 (And.intro (ty.k (by decide) rfl) (And.intro (ty.k (by decide) rfl) (And.intro (fun c => ?_) (fun c => ?_)))))))
        rotate_left
        · exact absurd c15 c
        refine kjZ_y rfl rfl 2 _ _ _ _ ty ?_
        refine And.intro (fun c2 => ?_) (fun c2 => ?_)
        rotate_left
        · exact absurd hx c2
        refine kjZ_y rfl rfl 1 _ _ _ _ ty ?_
        refine s23 3 [] x1 _ rfl hq rfl (by decide) (fun z tz gz jz hz hll eL => ?_)
        have e15 := (f53 z hz 15).1
        refine kjZ_y rfl rfl 4 _ _ _ _ tz ?_
        refine (And.intro (tz.k (by decide) rfl) (And.intro (tz.k (by decide) rfl) (And.intro (fun c3 => ?_) (fun c3 => ?_))))
        rotate_left
        · exact absurd (e15.trans c15) c3
        refine kjZ_y rfl rfl 2 _ _ _ _ tz ?_
        refine And.intro (fun c4 => ?_) (fun c4 => ?_)
        rotate_left
        · exact absurd hx c4
        refine kjZ_y rfl rfl 1 _ _ _ _ tz ?_
        refine And.intro rfl (And.intro rfl ?_)
        refine ⟨rfl, gz, ?_, hz⟩
        rw [eL, show wordsL [] = ([] : List Int32) from rfl, List.append_nil]; exact jz
      · have hq : nsC (σ.1 53 15) (σ.2.1 53 16) w1 wv = [tb 9, w1, wv] ++ [tb 11, dec (σ.2.1 53 16)] := by unfold nsC; rw [if_pos c15, if_neg ht]
        refine kjZ_y rfl rfl 6 _ _ _ _ ty ?_
        refine (And.intro (ty.k (by decide) rfl) (Exists.intro _ (And.intro h10 (And.intro (ty.k (by decide) rfl) (And.intro (ty.k (by decide) rfl) (And.intro (fun c => ?_) (fun c => ?_)))))))
        rotate_left
        · exact absurd c15 c
        refine kjZ_y rfl rfl 2 _ _ _ _ ty ?_
        refine And.intro (fun c2 => ?_) (fun c2 => ?_)
        · exact absurd (hx.symm.trans c2) (by decide)
        refine kjZ_y rfl rfl 2 _ _ _ _ ty ?_
        refine s23 5 [tb 11, dec (σ.2.1 53 16)] x1 _ rfl hq rfl (by decide) (fun z tz gz jz hz hll eL => ?_)
        have e15 := (f53 z hz 15).1
        have i10 := f10 z hz
        have kbz := ob_k tz b1
        have eT : wordsL [tb 11, dec (σ.2.1 53 16)] = wordL (tb 11) ++ wordL (dec (σ.2.1 53 16)) := by rw [wdsL_cons, wdsL_cons]; show _ ++ (_ ++ []) = _; rw [List.append_nil]
        rw [eT, List.length_append (as := wordL (tb 11))] at hll
        refine kjZ_y rfl rfl 4 _ _ _ _ tz ?_
        refine (And.intro (tz.k (by decide) rfl) (And.intro (tz.k (by decide) rfl) (And.intro (fun c3 => ?_) (fun c3 => ?_))))
        rotate_left
        · exact absurd (e15.trans c15) c3
        refine kjZ_y rfl rfl 2 _ _ _ _ tz ?_
        refine And.intro (fun c4 => ?_) (fun c4 => ?_)
        · exact absurd (hx.symm.trans c4) (by decide)
        refine kjZ_y rfl rfl 4 _ _ _ _ tz ?_
        refine (And.intro (tz.k (by decide) rfl) (Exists.intro _ (And.intro i10 (And.intro rfl (And.intro (Nat.le_of_ble_eq_true rfl) (And.intro (Or.inl ⟨(Nat.le_of_ble_eq_true rfl), (by assumption)⟩) (And.intro (Nat.le_of_ble_eq_true rfl) (And.intro (Nat.le_of_ble_eq_true rfl) (kjY_mono tz (fun q_ z1 t1 xx1 h_ => ?_) (j_text (d := d) tz gz hb jz (i := 11) (by decide) (by omega)))))))))))
        obtain ⟨rfl, g1, j1, c1⟩ := h_
        intro _ _
        have hz1 := J_tr ty hb hz c1
        have i101 := f10 z1 hz1
        have kb1 := ob_k t1 b1
        have e16 : z1.2.1 53 16 = σ.2.1 53 16 := (f53 z1 hz1 16).2
        refine kjZ_y rfl rfl 6 _ _ _ _ t1 ?_
        refine (And.intro (t1.k (by decide) rfl) (Exists.intro _ (And.intro i101 (And.intro (t1.k (by decide) rfl) (And.intro (t1.k (by decide) rfl) (And.intro (Nat.le_of_ble_eq_true rfl) (And.intro (Or.inl ⟨(Nat.le_of_ble_eq_true rfl), (by assumption)⟩) (And.intro (Nat.le_of_ble_eq_true rfl) (And.intro (Nat.le_of_ble_eq_true rfl) (kjY_mono t1 (fun q_ z2 t2 xx2 h_ => ?_) (j_num (d := d + 2) t1 g1 hb j1 (z1.2.1 53 16) (by rw [e16, List.length_append]; omega))))))))))))
        obtain ⟨rfl, g2, j2, c2⟩ := h_
        intro _ _
        refine kjZ_y rfl rfl 1 _ _ _ _ t2 ?_
        refine And.intro rfl (And.intro rfl ?_)
        refine ⟨rfl, g2, ?_, J_tr ty hb hz1 c2⟩
        rw [eL, eT, ← List.append_assoc, ← e16]; exact j2
    · have hq : nsC (σ.1 53 15) (σ.2.1 53 16) w1 wv = [tb 9, w1, wv] ++ [tb 10] := by unfold nsC; rw [if_neg c15]
      refine kjZ_y rfl rfl 6 _ _ _ _ ty ?_
      refine (And.intro (ty.k (by decide) rfl) (Exists.intro _ (And.intro h10 (And.intro (ty.k (by decide) rfl) (And.intro (ty.k (by decide) rfl) (And.intro (fun c => ?_) (fun c => ?_)))))))
      · exact absurd c c15
      refine kjZ_y rfl rfl 2 _ _ _ _ ty ?_
      refine s23 4 [tb 10] x1 _ rfl hq rfl (by decide) (fun z tz gz jz hz hll eL => ?_)
      have e15 := (f53 z hz 15).1
      have i10 := f10 z hz
      have kbz := ob_k tz b1
      have eT : wordsL [tb 10] = wordL (tb 10) := by rw [wdsL_cons]; show _ ++ [] = _; rw [List.append_nil]
      rw [eT] at hll
      refine kjZ_y rfl rfl 4 _ _ _ _ tz ?_
      refine (And.intro (tz.k (by decide) rfl) (And.intro (tz.k (by decide) rfl) (And.intro (fun c3 => ?_) (fun c3 => ?_))))
      · exact absurd (e15.symm.trans c3) c15
      refine kjZ_y rfl rfl 4 _ _ _ _ tz ?_
      refine (And.intro (tz.k (by decide) rfl) (Exists.intro _ (And.intro i10 (And.intro rfl (And.intro (Nat.le_of_ble_eq_true rfl) (And.intro (Or.inl ⟨(Nat.le_of_ble_eq_true rfl), (by assumption)⟩) (And.intro (Nat.le_of_ble_eq_true rfl) (And.intro (Nat.le_of_ble_eq_true rfl) (kjY_mono tz (fun q_ z1 t1 xx1 h_ => ?_) (j_text (d := d) tz gz hb jz (i := 10) (by decide) hll))))))))))
      obtain ⟨rfl, g1, j1, c1⟩ := h_
      intro _ _
      refine kjZ_y rfl rfl 2 _ _ _ _ t1 ?_
      refine And.intro rfl (And.intro rfl ?_)
      refine ⟨rfl, g1, ?_, J_tr ty hb hz c1⟩
      rw [eL, eT]; exact j1
  refine kjZ_y rfl rfl 6 _ _ _ _ ty ?_
  refine (And.intro (ty.k (by decide) rfl) (And.intro (ty.k (by decide) rfl) (And.intro (fun c => ?_) (fun c => ?_))))
  · have c : σ.2.1 53 16 = NEV := (lg_cmp_eq _ _).mp c
    refine kjZ_y rfl rfl 2 _ _ _ _ ty ?_
    refine (And.intro (Nat.le_of_ble_eq_true rfl) ?_)
    exact s10 _ (Or.inl ⟨rfl, c⟩)
  · have c : ¬ σ.2.1 53 16 = NEV := fun z => c ((lg_cmp_eq _ _).mpr z)
    refine kjZ_y rfl rfl 3 _ _ _ _ ty ?_
    refine (And.intro (Nat.le_of_ble_eq_true rfl) ?_)
    exact s10 _ (Or.inr ⟨rfl, c⟩)
end KNOTE2
