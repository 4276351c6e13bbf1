/-! What is due behind a request or a whole block. -/
def fnF (b : Nat) : List (Nat × Nat) := (0, 13) :: (jnF b ++ (buF b ++ (kcF ++ opF)))
def fnO (b : Nat) : List (Nat × Nat) := buO b ++ kcO
theorem fn_1 : ∀ b ∈ [5, 7], (∀ p ∈ jnF b, p ∈ fnF b) ∧ (∀ p ∈ buF b, p ∈ fnF b) ∧ (∀ p ∈ kcF, p ∈ fnF b) ∧ (∀ p ∈ opF, p ∈ fnF b) := by
  intro b _
  refine ⟨fun p hp => ?_, fun p hp => ?_, fun p hp => ?_, fun p hp => ?_⟩ <;> unfold fnF <;> refine List.mem_cons_of_mem _ ?_
  · exact List.mem_append_left _ hp
  · exact List.mem_append_right _ (List.mem_append_left _ hp)
  · exact List.mem_append_right _ (List.mem_append_right _ (List.mem_append_left _ hp))
  · exact List.mem_append_right _ (List.mem_append_right _ (List.mem_append_right _ hp))
theorem fn_2 : ∀ b ∈ [5, 7], (∀ p ∈ [((b : Nat), (1 : Nat))], p ∈ fnO b) ∧ (∀ p ∈ buO b, p ∈ fnO b) ∧ (∀ p ∈ kcO, p ∈ fnO b) ∧ ∀ p ∈ fnO b, p ∈ OWs := by decide +kernel
theorem fn_3 : ∀ b ∈ [5, 7], (∀ p ∈ kcF, (¬ p.1 = b) ∧ ¬ p = (53, 3) ∧ ¬ p.1 = 0 ∧ ∀ c ∈ CNs, ¬ p = (c, 3)) ∧ (∀ p ∈ kcO, p ∈ OWs ∧ ¬ p.1 = b) ∧ (∀ p ∈ opF, ¬ p.1 = b) := by decide +kernel
/-- the words that end a noted block -/
def exC (rb nb : Int32) : List Int32 := if (¬ rb = 0) ∧ ¬ nb = 0 then encR [tb 4] else []
/-- one connection is as it was, or it is closed -/
def FNc (c : Nat) (σ z : kS) : Prop := (∀ b ∈ OFb, ∀ l, kBY σ b l → kBY z b l ∧ z.1 b 3 = σ.1 b 3) ∧ (∀ c' ∈ CNs, z.1 c' 7 = σ.1 c' 7 ∧ z.1 c' 0 = σ.1 c' 0) ∨ (∃ bk ∈ payB, σ.2.2.1 c 3 = some bk ∧ (kBY z bk [] ∧ z.1 bk 3 = 0) ∧ (kBY z (c + 1) [] ∧ z.1 (c + 1) 3 = 0) ∧ z.1 c 7 = 0 ∧ z.1 c 0 = 0 ∧ (∀ b ∈ OFb, ¬ b = bk → ¬ b = c + 1 → ∀ l, kBY σ b l → kBY z b l ∧ z.1 b 3 = σ.1 b 3) ∧ ∀ c' ∈ CNs, ¬ c' = c → z.1 c' 7 = σ.1 c' 7)
def fnP (B : List (List Int32)) (c b : Nat) (σ : kS) (nmm : List (List Int32)) (ks : List KC) (L : List Int32) (n : Nat) : kK := fun r z => r = none ∧ z.1 0 13 = 0 ∧ BLJ z ∧ Ch true (fnF b) (fnO b) σ z ∧
  ((KG B z nmm ks ∧ kBY z b L ∧ z.1 b 3 = 0 ∧ z.1 0 17 = σ.1 0 17 ∧ FNc c σ z) ∨ (KG B z [] [] ∧ (∀ c ∈ CNs, CLRd z c) ∧ z.1 0 17 = 0 ∧ ∃ m, n ≤ m ∧ m ≤ L.length ∧ kBY z b (L.take m) ∧ z.1 b 3 = 0))
section KFINISH
variable {Y : Nat → MethodName × ByteArray} {d : Nat} {σ u : kS} {B ws nmm nmm' : List (List Int32)} {ks ks' : List KC}
theorem OFb_k : ∀ b ∈ OFb, b ∈ OWb ∧ b < 76 ∧ (kd0 b).1 = 0 ∧ (∀ p ∈ kcF, ¬ p.1 = b) ∧ (∀ p ∈ kcO, p ∈ OWs ∧ ¬ p.1 = b) ∧ ¬ b = 5 ∧ ¬ b = 7 ∧ ¬ b = 0 := by decide +kernel
theorem CN_k : ∀ c ∈ CNs, c < 76 ∧ (kd0 c).1 = 1 ∧ ¬ (c, 7) ∈ kcF ∧ ¬ c = 5 ∧ ¬ c = 7 ∧ ¬ c = 0 ∧ (∀ b ∈ OFb, ¬ b = c) ∧ ¬ c + 3 = c ∧ ∀ c' ∈ CNs, ¬ c' = c + 1 ∧ (∀ b ∈ payB, ¬ c' = b) := by decide +kernel
/-- what stays for all connections -/
def FN0 (σ z : kS) : Prop := (∀ b ∈ OFb, ∀ l, kBY σ b l → kBY z b l ∧ z.1 b 3 = σ.1 b 3) ∧ (∀ c' ∈ CNs, z.1 c' 7 = σ.1 c' 7 ∧ z.1 c' 0 = σ.1 c' 0) ∧ ∀ c' ∈ CNs, z.2.2.1 c' 3 = σ.2.2.1 c' 3
theorem FN0.rf : FN0 σ σ := ⟨fun _ _ _ h => ⟨h, rfl⟩, fun _ _ => ⟨rfl, rfl⟩, fun _ _ => rfl⟩
theorem FN0.tr {v : kS} (a : FN0 σ u) (b : FN0 u v) : FN0 σ v := ⟨fun x hx l h => ⟨(b.1 x hx l (a.1 x hx l h).1).1, ((b.1 x hx l (a.1 x hx l h).1).2).trans (a.1 x hx l h).2⟩, fun c hc => ⟨(b.2.1 c hc).1.trans (a.2.1 c hc).1, (b.2.1 c hc).2.trans (a.2.1 c hc).2⟩, fun c hc => (b.2.2 c hc).trans (a.2.2 c hc)⟩
theorem FN0.kc (ty : kTY σ) (ow : OWN σ) {vs : Bool} (ch : Ch vs kcF kcO σ u) : FN0 σ u := by
  have q3 : ∀ c ∈ CNs, ¬ (c, 3) ∈ kcF := by decide +kernel
  have q0 : ∀ c ∈ CNs, ¬ (c, 0) ∈ kcF := by decide +kernel
  refine ⟨fun b hb l h => ?_, fun c hc => ⟨(ch.fld ty (CN_k c hc).1 (CN_k c hc).2.1 (by decide) (CN_k c hc).2.2.1).1, (ch.fld ty (CN_k c hc).1 (CN_k c hc).2.1 (by decide) (q0 c hc)).1⟩, fun c hc => (ch.fld ty (CN_k c hc).1 (CN_k c hc).2.1 (by decide) (q3 c hc)).2.2⟩
  obtain ⟨o1, o2, o3, o4, o5, -⟩ := OFb_k b hb
  exact ⟨h.fr ty ow o1 ch o4 o5, (ch.fld ty o2 o3 (by decide) (fun z => o4 _ z rfl)).1⟩
theorem FN0.jn (ty : kTY σ) (ow : OWN σ) {b : Nat} (hb : b ∈ [5, 7]) {vs : Bool} (ch : Ch vs (jnF b) [(b, 1)] σ u) : FN0 σ u := by
  have qf : ∀ b ∈ [5, 7], ∀ p ∈ jnF b, p.1 = b := by decide
  have hb57 : b = 5 ∨ b = 7 := by simpa using hb
  have ncb : ∀ x, ¬ x = 5 → ¬ x = 7 → ¬ x = b := fun x h5 h7 z => by rcases hb57 with w | w <;> omega
  refine ⟨fun x hx l h => ?_, fun c hc => ⟨(ch.fld ty (CN_k c hc).1 (CN_k c hc).2.1 (by decide) (fun z => ncb c (CN_k c hc).2.2.2.1 (CN_k c hc).2.2.2.2.1 (qf b hb _ z))).1, (ch.fld ty (CN_k c hc).1 (CN_k c hc).2.1 (by decide) (fun z => ncb c (CN_k c hc).2.2.2.1 (CN_k c hc).2.2.2.2.1 (qf b hb _ z))).1⟩, fun c hc => (ch.fld ty (CN_k c hc).1 (CN_k c hc).2.1 (by decide) (fun z => ncb c (CN_k c hc).2.2.2.1 (CN_k c hc).2.2.2.2.1 (qf b hb _ z))).2.2⟩
  obtain ⟨o1, o2, o3, o4, o5, o6, o7, -⟩ := OFb_k x hx
  exact ⟨h.fr ty ow o1 ch (fun p hp => by rw [qf b hb p hp]; exact fun z => ncb x o6 o7 z.symm) (fun p hp => by rw [List.mem_singleton.mp hp]; exact ⟨ow_b (J_ok b hb).1, fun z => ncb x o6 o7 z.symm⟩), (ch.fld ty o2 o3 (by decide) (fun z => ncb x o6 o7 (qf b hb _ z))).1⟩
theorem FN0.i0 (ty : kTY σ) (g : KG B σ nmm ks) {x : Nat} {v : Int32} (hm : (0, x) ∈ ouF) (eu : u = (mjIu σ.1 0 x v, σ.2)) : FN0 σ u := by
  have o := (g.pi2 ty hm eu).2
  refine ⟨fun b hb l h => ⟨o b (OFb_k b hb).1 l h, ?_⟩, fun c hc => ?_, fun c hc => by rw [eu]⟩
  · rw [eu]; show mjIu σ.1 0 x v b 3 = _; rw [mjIu_at, if_neg (fun y => (OFb_k b hb).2.2.2.2.2.2.2 y.1)]
  · exact ⟨by rw [eu]; show mjIu σ.1 0 x v c 7 = _; rw [mjIu_at, if_neg (fun y => (CN_k c hc).2.2.2.2.2.1 y.1)], by rw [eu]; show mjIu σ.1 0 x v c 0 = _; rw [mjIu_at, if_neg (fun y => (CN_k c hc).2.2.2.2.2.1 y.1)]⟩
end KFINISH
