/-! The world of a command: the store, the request, what is pending, the answer, the watches. -/
section WORLD
variable {Y : Nat → MethodName × ByteArray} {d : Nat}
/-- an element and a key without their places -/
abbrev AE : Type := List Int32 × List Int32 × Int64
abbrev AK : Type := List Int32 × Int32 × Int32 × Int64 × List Int32 × List AE
/-- the time, nothing where there is none -/
def tmN (timed : Int32) (t : Int64) : Int64 := if timed = 0 then 0 else t
def st1 (x : KR) : AK := (x.2.1, x.2.2.1, x.2.2.2.1, tmN x.2.2.2.1 x.2.2.2.2.1, x.2.2.2.2.2.1, x.2.2.2.2.2.2.map (fun y => y.2))
def strip (ks : List KR) : List AK := ks.map st1
theorem strip_app (a b : List KR) : strip (a ++ b) = strip a ++ strip b := by unfold strip; rw [List.map_append]
theorem strip_cons (x : KR) (b : List KR) : strip (x :: b) = st1 x :: strip b := by unfold strip; rw [List.map_cons]
/-- the watches' rows -/
def WT (σ : mjS) : Prop := ∀ c, c < 4 → ∃ n : Nat, n ≤ 64 ∧ σ.2.2.1 r_watches c = nI n ∧ ∀ w, w < n → ∃ a m : Nat, σ.2.2.1 r_watchAt (64 * c + w) = nI a ∧ σ.2.2.1 r_watchLen (64 * c + w) = nI m ∧ a + m ≤ 100000
theorem WT.fr {σ u : mjS} {fs hs : List Nat} (h : WT σ) (f : Fr fs hs σ u) (h1 : r_watches ∉ hs) (h2 : r_watchAt ∉ hs) (h3 : r_watchLen ∉ hs) : WT u := by
  unfold WT
  rw [(f.2.2 _ h1).1, (f.2.2 _ h2).1, (f.2.2 _ h3).1]
  exact h
theorem nI_mul64 (c i : Nat) : (Int8.ofInt 64).toInt32 * nI c + nI i = nI (64 * c + i) := by
  rw [show (Int8.ofInt 64).toInt32 = nI 64 from by decide, pk_mul, nI_add]
set_option maxRecDepth 100000 in
theorem c_touch_in (K : mjK) (h a n : Nat) (hh : mjKd h = 1) (ha : a + n ≤ mjLn h) (hlh : mjLn h < 2 ^ 30) (c N : Nat) (hc : c < 4) (hN : N ≤ 64) (x4 : Int32) (e4 : x4 = nI c) : ∀ (j w : Nat) (σ : mjS) (x5 : Int32) (l6 : Option Value), x5 = nI w → w + j = N → mjTY σ → WT σ → σ.2.2.1 r_watches c = nI N →
    (∀ u x5 l6, mjTY u → Fr [] [r_disturbed] σ u → mjY mjPP (mjQQ Y) (d + 1) 23 41 [some (.ref 0), some (.ref h), some (.int (nI a)), some (.int (nI n)), some (.int x4), some (.int x5), l6] [] u K) →
    mjY mjPP (mjQQ Y) (d + 1) 23 7 [some (.ref 0), some (.ref h), some (.int (nI a)), some (.int (nI n)), some (.int x4), some (.int x5), l6] [] σ K := by
  have c4 : x4.toNatClampNeg = c := by rw [e4]; exact nI_clamp (by omega)
  have v4 : vp_in x4 4 := by rw [e4]; exact vp_in_nI hc (by decide)
  intro j
  induction j with
  | zero =>
    intro w σ x5 l6 e5 hw ty hT eN hK
    refine mjZ_y rfl rfl 6 _ _ _ _ ty ?_
    refine (And.intro rfl (And.intro rfl (And.intro v4 (And.intro (fun c => ?_) (fun c => ?_)))))
    · exact hK σ _ _ ty Fr.rf
    · refine absurd (show σ.2.2.1 r_watches x4.toNatClampNeg ≤ x5 from ?_) c
      rw [c4, eN, e5]; exact nI_le (by omega) (by omega)
  | succ j ih =>
    intro w σ x5 l6 e5 hw ty hT eN hK
    refine mjZ_y rfl rfl 6 _ _ _ _ ty ?_
    refine (And.intro rfl (And.intro rfl (And.intro v4 (And.intro (fun q => ?_) (fun q => ?_)))))
    · refine absurd (show σ.2.2.1 r_watches x4.toNatClampNeg ≤ x5 from q) ?_
      rw [c4, eN, e5]; exact nI_ge (by omega) (by omega)
    obtain ⟨N', hN', eN', hall⟩ := hT c hc
    have eNN : N = N' := (nI_eq (by omega) (by omega)).mp (eN.symm.trans eN')
    subst eNN
    obtain ⟨b, m, eA, eL, hbm⟩ := hall w (by omega)
    have e6 : (Int8.ofInt 64).toInt32 * x4 + x5 = nI (64 * c + w) := by rw [e4, e5]; exact nI_mul64 c w
    have c6 : ((Int8.ofInt 64).toInt32 * x4 + x5).toNatClampNeg = 64 * c + w := by rw [e6]; exact nI_clamp (by omega)
    have v6 : vp_in ((Int8.ofInt 64).toInt32 * x4 + x5) 256 := by rw [e6]; exact vp_in_nI (by omega) (by decide)
    have hcmp := c_compare (Y := Y) (d := d) r_watchText h b m a n rfl hh hbm ha (by decide) hlh ty
    rw [← eA, ← eL, ← c6] at hcmp
    refine mjZ_y rfl rfl 20 _ _ _ _ ty ?_
    refine (And.intro (Nat.le_of_ble_eq_true rfl) (And.intro rfl (And.intro rfl (And.intro rfl (And.intro v6 (And.intro rfl (And.intro rfl (And.intro v6 (And.intro (Nat.le_of_ble_eq_true rfl) (And.intro (Nat.le_of_ble_eq_true rfl) (And.intro (Nat.le_of_ble_eq_true rfl) (mjY_mono ty (fun q_ u1 ty1 h_ => ?_) (hcmp)))))))))))))
    obtain ⟨rfl, r, rfl, hr⟩ := h_
    intro _
    refine mjZ_y rfl rfl 1 _ _ _ _ ty ?_
    refine And.intro (fun q => ?_) (fun q => ?_)
    · refine mjZ_y rfl rfl 2 _ _ _ _ ty ?_
      exact ih (w + 1) u1 _ _ (by rw [e5]; exact nI_1 w) (by omega) ty hT eN hK
    · refine mjZ_y rfl rfl 7 _ _ _ _ ty ?_
      refine (And.intro rfl (And.intro (Or.inr ⟨rfl, Or.inr rfl⟩) (And.intro v4 (fun ty' => ?_))))
      refine ih (w + 1) _ _ _ (by rw [e5]; exact nI_1 w) (by omega) ty' ?_ ?_ (fun u x5 l6 tu fu => hK u x5 l6 tu ((Fr.a (by decide)).tr fu))
      · exact hT.fr (Fr.a (fs := []) (hs := [r_disturbed]) (by decide)) (by decide) (by decide) (by decide)
      · exact eN
set_option maxRecDepth 100000 in
theorem c_touch_out (K : mjK) (h a n : Nat) (hh : mjKd h = 1) (ha : a + n ≤ mjLn h) (hlh : mjLn h < 2 ^ 30) : ∀ (j c : Nat) (σ : mjS) (x4 : Int32) (l5 l6 : Option Value), x4 = nI c → c + j = 4 → mjTY σ → WT σ →
    (∀ u, mjTY u → Fr [] [r_disturbed] σ u → K none u) →
    mjY mjPP (mjQQ Y) (d + 1) 23 2 [some (.ref 0), some (.ref h), some (.int (nI a)), some (.int (nI n)), some (.int x4), l5, l6] [] σ K := by
  intro j
  induction j with
  | zero =>
    intro c σ x4 l5 l6 e4 hc ty hT hK
    refine mjZ_y rfl rfl 3 _ _ _ _ ty ?_
    refine And.intro (fun q => ?_) (fun q => ?_)
    · refine mjZ_y rfl rfl 1 _ _ _ _ ty ?_
      refine And.intro rfl (And.intro rfl ?_)
      exact hK σ ty Fr.rf
    · exact absurd (show Int32.ofInt 4 ≤ x4 by rw [e4]; exact nI_le (a := 4) (by omega) (by omega)) q
  | succ j ih =>
    intro c σ x4 l5 l6 e4 hc ty hT hK
    refine mjZ_y rfl rfl 3 _ _ _ _ ty ?_
    refine And.intro (fun q => ?_) (fun q => ?_)
    · exact absurd (show Int32.ofInt 4 ≤ x4 from q) (by rw [e4]; exact nI_ge (b := 4) (by omega) (by omega))
    · refine mjZ_y rfl rfl 2 _ _ _ _ ty ?_
      refine (And.intro (Nat.le_of_ble_eq_true rfl) ?_)
      obtain ⟨N, hN, eN, -⟩ := hT c (by omega)
      refine c_touch_in K h a n hh ha hlh c N (by omega) hN x4 e4 N 0 σ _ _ rfl (by omega) ty hT eN (fun u x5 l6 tu fu => ?_)
      refine mjZ_y rfl rfl 2 _ _ _ _ tu ?_
      exact ih (c + 1) u _ _ _ (by rw [e4]; exact nI_1 c) (by omega) tu (hT.fr fu (by decide) (by decide) (by decide)) (fun w tw fw => hK w tw (fu.tr fw))
theorem c_touchText {σ : mjS} (ty : mjTY σ) (hT : WT σ) (h a n : Nat) (hh : mjKd h = 1) (ha : a + n ≤ mjLn h) (hlh : mjLn h < 2 ^ 30) : mjY mjPP (mjQQ Y) (d + 1) 23 0 (mjL0 7 [.ref 0, .ref h, .int (nI a), .int (nI n)]) [] σ (fun r u => r = none ∧ Fr [] [r_disturbed] σ u) := by
  refine mjZ_y rfl rfl 2 _ _ _ _ ty ?_
  refine (And.intro (Nat.le_of_ble_eq_true rfl) ?_)
  exact c_touch_out _ h a n hh ha hlh 4 0 σ _ _ _ rfl rfl ty hT (fun u _ fu => ⟨rfl, fu⟩)
end WORLD
