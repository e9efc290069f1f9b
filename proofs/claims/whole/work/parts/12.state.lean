/-! how many of the first n words are not 0 -/
def nz1 (x : Int64) : Nat := if x = 0 then 0 else 1
def nzc (W : Nat → Int64) : Nat → Nat
  | 0 => 0
  | n + 1 => nzc W n + nz1 (W n)
theorem nz1_0 : nz1 0 = 0 := by simp [nz1]
theorem nz1_le (x : Int64) : nz1 x ≤ 1 := by unfold nz1; split <;> omega
theorem nz1_ne {x : Int64} (h : ¬ x = 0) : nz1 x = 1 := by simp [nz1, h]
theorem nzc_le (W : Nat → Int64) : ∀ n, nzc W n ≤ n := by
  intro n
  induction n with
  | zero => exact Nat.le_refl _
  | succ n ih => have := nz1_le (W n); show nzc W n + nz1 (W n) ≤ n + 1; omega
theorem nzc_congr {W V : Nat → Int64} : ∀ n, (∀ i, i < n → W i = V i) → nzc W n = nzc V n := by
  intro n
  induction n with
  | zero => intro _; rfl
  | succ n ih =>
    intro h
    show nzc W n + nz1 (W n) = nzc V n + nz1 (V n)
    rw [ih (fun i hi => h i (by omega)), h n (by omega)]
theorem nzc_up (W : Nat → Int64) (i : Nat) (x : Int64) : ∀ n, i < n → nzc (va_up W i x) n + nz1 (W i) = nzc W n + nz1 x := by
  intro n
  induction n with
  | zero => intro h; omega
  | succ n ih =>
    intro h
    show nzc (va_up W i x) n + nz1 (va_up W i x n) + nz1 (W i) = nzc W n + nz1 (W n) + nz1 x
    by_cases hn : i = n
    · subst hn
      rw [va_up_self, nzc_congr (W := va_up W i x) (V := W) i (fun j hj => va_up_ne _ _ (by omega))]
      omega
    · have := ih (by omega)
      rw [va_up_ne _ _ (fun q => hn q.symm)]
      omega
theorem nzc_0 (W : Nat → Int64) : ∀ n, nzc W n = 0 ↔ ∀ i, i < n → W i = 0 := by
  intro n
  induction n with
  | zero => exact ⟨fun _ i h => by omega, fun _ => rfl⟩
  | succ n ih =>
    constructor
    · intro h i hi
      have h2 : nzc W n + nz1 (W n) = 0 := h
      by_cases hn : i = n
      · subst hn
        rcases Classical.em (W i = 0) with z | z
        · exact z
        · rw [nz1_ne z] at h2; omega
      · exact ih.mp (by omega) i (by omega)
    · intro h
      show nzc W n + nz1 (W n) = 0
      rw [ih.mpr (fun i hi => h i (by omega)), h n (by omega), nz1_0]
theorem nzc_const (x : Int64) : ∀ n, nzc (fun _ => x) n = if x = 0 then 0 else n := by
  intro n
  induction n with
  | zero => simp [nzc]
  | succ n ih =>
    show nzc (fun _ => x) n + nz1 x = _
    rw [ih]
    unfold nz1
    split <;> omega
/-! WHAT A STATE OF THE CLASS IS -/
/-- outside F nothing that was there has changed; the footprint is then in F, or new -/
def kp (w w' : Nat → Option va_E) (F F' : Nat → Prop) : Prop := (∀ q, ¬ w q = none → ¬ F q → w' q = w q) ∧ ∀ q, F' q → F q ∨ w q = none
theorem kp.rf {w : Nat → Option va_E} {F : Nat → Prop} : kp w w F F := ⟨fun _ _ _ => rfl, fun _ h => Or.inl h⟩
theorem kp.trans {w w1 w2 : Nat → Option va_E} {F F1 F2 : Nat → Prop} (h1 : kp w w1 F F1) (h2 : kp w1 w2 F1 F2) : kp w w2 F F2 := by
  have key : ∀ q, ¬ w q = none → ¬ F q → ¬ F1 q := fun q hq hF h => (h1.2 q h).elim hF hq
  refine ⟨fun q hq hF => ?_, fun q h => ?_⟩
  · have e1 := h1.1 q hq hF
    rw [h2.1 q (by rw [e1]; exact hq) (key q hq hF), e1]
  · rcases h2.2 q h with g | g
    · exact h1.2 q g
    · rcases Classical.em (w q = none) with z | z
      · exact Or.inr z
      · rcases Classical.em (F q) with y | y
        · exact Or.inl y
        · rw [h1.1 q z y] at g
          exact absurd g z
/-- a page's own array, if it has one -/
def pgw (w : Nat → Option va_E) (p : Nat) : Option Nat := match w p with
  | some (.inr (_, .ref a :: _)) => some a
  | _ => none
def pfp (w : Nat → Option va_E) (p q : Nat) : Prop := q = p ∨ pgw w p = some q
def pgE (wr : Option Nat) (ev : Int32) (ew : Int64) (nz : Int32) (tw : Int64) : va_E := .inr (ciP, [va_rf wr, .int ev, .long ew, .int nz, .long tw])
def pg (cJ : ClassId) (w : Nat → Option va_E) (p : Nat) (W : Nat → Int64) (tw : Int64) : Prop := ∃ (wr : Option Nat) (ev : Int32) (ew : Int64), w p = some (pgE wr ev ew (nI (nzc W 512)) tw) ∧ (ev = 0 ∨ ev = 1) ∧ (ev = 1 → ∀ i, i < 512 → W i = ew) ∧ (ev = 0 → ¬ wr = none) ∧ ∀ a, wr = some a → ∃ f : Nat → Int64, w a = some (.inl (cJ, 512, .inr (.inl f))) ∧ (ev = 0 → ∀ i, i < 512 → f i = W i)
theorem pgw_of {w : Nat → Option va_E} {p : Nat} {wr : Option Nat} {ev : Int32} {ew : Int64} {nz : Int32} {tw : Int64} (h : w p = some (pgE wr ev ew nz tw)) : pgw w p = wr := by
  unfold pgw
  rw [h]
  cases wr with
  | none => rfl
  | some a => rfl
theorem pgw_eq {w w' : Nat → Option va_E} {p : Nat} (h : w' p = w p) : pgw w' p = pgw w p := by unfold pgw; rw [h]
theorem pg.congr {cJ : ClassId} {w : Nat → Option va_E} {p : Nat} {W V : Nat → Int64} {tw : Int64} (h : pg cJ w p W tw) (e : ∀ i, i < 512 → W i = V i) : pg cJ w p V tw := by
  obtain ⟨wr, ev, ew, h1, h2, h3, h4, h5⟩ := h
  refine ⟨wr, ev, ew, by rw [← nzc_congr 512 e]; exact h1, h2, fun a i hi => (e i hi).symm.trans (h3 a i hi), h4, fun a ha => ?_⟩
  obtain ⟨f, g1, g2⟩ := h5 a ha
  exact ⟨f, g1, fun z i hi => (g2 z i hi).trans (e i hi)⟩
/-- what lies in a page's footprint -/
theorem pg.what {cJ : ClassId} {w : Nat → Option va_E} {p q : Nat} {W : Nat → Int64} {tw : Int64} (h : pg cJ w p W tw) (hq : pfp w p q) : (∃ vs : List Value, w q = some (.inr (ciP, vs))) ∨ ∃ f : Nat → Int64, w q = some (.inl (cJ, 512, .inr (.inl f))) := by
  obtain ⟨wr, ev, ew, h1, h2, h3, h4, h5⟩ := h
  rcases hq with rfl | hq
  · exact Or.inl ⟨_, h1⟩
  · rw [pgw_of h1] at hq
    obtain ⟨f, g1, g2⟩ := h5 q hq
    exact Or.inr ⟨f, g1⟩
theorem pg.here {cJ : ClassId} {w : Nat → Option va_E} {p q : Nat} {W : Nat → Int64} {tw : Int64} (h : pg cJ w p W tw) (hq : pfp w p q) : ¬ w q = none := by
  rcases h.what hq with ⟨_, e⟩ | ⟨_, e⟩ <;> rw [e] <;> exact fun z => by cases z
/-- a page whose cells are as before -/
theorem pg.kept {cJ : ClassId} {w w' : Nat → Option va_E} {p : Nat} {W : Nat → Int64} {tw : Int64} (h : pg cJ w p W tw) (hq : ∀ q, pfp w p q → w' q = w q) : pg cJ w' p W tw ∧ ∀ q, pfp w' p q ↔ pfp w p q := by
  have e0 := hq p (Or.inl rfl)
  refine ⟨?_, fun q => by unfold pfp; rw [pgw_eq e0]⟩
  obtain ⟨wr, ev, ew, h1, h2, h3, h4, h5⟩ := h
  refine ⟨wr, ev, ew, by rw [e0]; exact h1, h2, h3, h4, fun a ha => ?_⟩
  obtain ⟨f, g1, g2⟩ := h5 a ha
  exact ⟨f, by rw [hq a (Or.inr (by rw [pgw_of h1]; exact ha))]; exact g1, g2⟩
def smE (n aT aA aS : Nat) : va_E := .inr (ciS, [.int (nI n), .ref aT, .ref aA, .ref aS])
def sm (cJ cI cP : ClassId) (w : Nat → Option va_E) (h n : Nat) (M T : Nat → Int64) (ra : Nat → Int64) (rs : Nat → Int32) (aT aA aS : Nat) (pt : Nat → Option Nat) : Prop :=
  (1 ≤ n ∧ n ≤ 1024) ∧ w h = some (smE n aT aA aS) ∧ w aT = some (.inl (cP, n, .inr (.inr (.inr (.inr pt))))) ∧ w aA = some (.inl (cJ, 4, .inr (.inl ra))) ∧ w aS = some (.inl (cI, 4, .inl rs)) ∧ (∀ i, i < n → pt i = none → T i = 0 ∧ ∀ j, j < 512 → M (512 * i + j) = 0) ∧ (∀ i p, i < n → pt i = some p → pg cJ w p (fun j => M (512 * i + j)) (T i)) ∧ ∀ i j p p' q, i < n → j < n → pt i = some p → pt j = some p' → pfp w p q → pfp w p' q → i = j
/-- the footprint of the class's object -/
def sfp (w : Nat → Option va_E) (h q : Nat) : Prop := q = h ∨ ∃ (v : Value) (aT aA aS : Nat), w h = some (.inr (ciS, [v, .ref aT, .ref aA, .ref aS])) ∧ (q = aT ∨ q = aA ∨ q = aS ∨ ∃ (cA : ClassId) (n : Nat) (pt : Nat → Option Nat) (i p : Nat), w aT = some (.inl (cA, n, .inr (.inr (.inr (.inr pt))))) ∧ i < n ∧ pt i = some p ∧ pfp w p q)
theorem sfp_iff {cP : ClassId} {w : Nat → Option va_E} {h n aT aA aS : Nat} {pt : Nat → Option Nat} (h1 : w h = some (smE n aT aA aS)) (h2 : w aT = some (.inl (cP, n, .inr (.inr (.inr (.inr pt)))))) (q : Nat) : sfp w h q ↔ q = h ∨ q = aT ∨ q = aA ∨ q = aS ∨ ∃ i p, i < n ∧ pt i = some p ∧ pfp w p q := by
  unfold sfp
  constructor
  · rintro (g | ⟨v, a, b, c, e, g⟩)
    · exact Or.inl g
    · rw [h1] at e
      unfold smE at e
      simp only [Option.some.injEq, Sum.inr.injEq, Prod.mk.injEq, List.cons.injEq, Value.ref.injEq, and_true, true_and] at e
      obtain ⟨-, rfl, rfl, rfl⟩ := e
      rcases g with g | g | g | ⟨cA, m, pt', i, p, e2, g1, g2, g3⟩
      · exact Or.inr (Or.inl g)
      · exact Or.inr (Or.inr (Or.inl g))
      · exact Or.inr (Or.inr (Or.inr (Or.inl g)))
      · rw [h2] at e2
        simp only [Option.some.injEq, Sum.inl.injEq, Prod.mk.injEq, Sum.inr.injEq] at e2
        obtain ⟨-, rfl, rfl⟩ := e2
        exact Or.inr (Or.inr (Or.inr (Or.inr ⟨i, p, g1, g2, g3⟩)))
  · rintro (g | g | g | g | ⟨i, p, g1, g2, g3⟩)
    · exact Or.inl g
    · exact Or.inr ⟨_, aT, aA, aS, h1, Or.inl g⟩
    · exact Or.inr ⟨_, aT, aA, aS, h1, Or.inr (Or.inl g)⟩
    · exact Or.inr ⟨_, aT, aA, aS, h1, Or.inr (Or.inr (Or.inl g))⟩
    · exact Or.inr ⟨_, aT, aA, aS, h1, Or.inr (Or.inr (Or.inr ⟨_, _, pt, i, p, h2, g1, g2, g3⟩))⟩
/-- the words of page i become W -/
def pup (M : Nat → Int64) (i : Nat) (W : Nat → Int64) : Nat → Int64 := fun k => if k / 512 = i then W (k % 512) else M k
theorem pup_in (M : Nat → Int64) (i : Nat) (W : Nat → Int64) {j : Nat} (hj : j < 512) : pup M i W (512 * i + j) = W j := by
  unfold pup
  rw [if_pos (by omega), show (512 * i + j) % 512 = j by omega]
theorem pup_out (M : Nat → Int64) {i k : Nat} (W : Nat → Int64) {j : Nat} (hj : j < 512) (h : ¬ k = i) : pup M i W (512 * k + j) = M (512 * k + j) := by
  unfold pup
  rw [if_neg (by omega)]
theorem sm_page {cJ cI cP : ClassId} {w w' : Nat → Option va_E} {h n : Nat} {M T : Nat → Int64} {ra : Nat → Int64} {rs : Nat → Int32} {aT aA aS : Nat} {pt : Nat → Option Nat} (H : sm cJ cI cP w h n M T ra rs aT aA aS pt) {i p : Nat} (hi : i < n) (hp : pt i = some p) (hk : kp w w' (pfp w p) (pfp w' p)) {W : Nat → Int64} {t' : Int64} (hg : pg cJ w' p W t') : sm cJ cI cP w' h n (pup M i W) (va_up T i t') ra rs aT aA aS pt ∧ kp w w' (sfp w h) (sfp w' h) := by
  obtain ⟨hn, h1, h2, h3, h4, h5, h6, h7⟩ := H
  have hpg := h6 i p hi hp
  have n1 : ¬ pfp w p h := fun z => by rcases hpg.what z with ⟨_, e⟩ | ⟨_, e⟩ <;> rw [h1] at e <;> simp [smE, ciS, ciP] at e
  have n2 : ¬ pfp w p aT := fun z => by rcases hpg.what z with ⟨_, e⟩ | ⟨_, e⟩ <;> rw [h2] at e <;> simp at e
  have n3 : ¬ pfp w p aA := fun z => by rcases hpg.what z with ⟨_, e⟩ | ⟨_, e⟩ <;> rw [h3] at e <;> simp at e
  have n4 : ¬ pfp w p aS := fun z => by rcases hpg.what z with ⟨_, e⟩ | ⟨_, e⟩ <;> rw [h4] at e <;> simp at e
  have e1 : w' h = w h := hk.1 h (by rw [h1]; simp) n1
  have e2 : w' aT = w aT := hk.1 aT (by rw [h2]; simp) n2
  have e3 : w' aA = w aA := hk.1 aA (by rw [h3]; simp) n3
  have e4 : w' aS = w aS := hk.1 aS (by rw [h4]; simp) n4
  have other : ∀ k p', k < n → pt k = some p' → ¬ k = i → pg cJ w' p' (fun j => M (512 * k + j)) (T k) ∧ ∀ q, pfp w' p' q ↔ pfp w p' q := fun k p' hk2 hp2 hne =>
    (h6 k p' hk2 hp2).kept (fun q hq => hk.1 q ((h6 k p' hk2 hp2).here hq) (fun z => hne (h7 k i p' p q hk2 hi hp2 hp hq z)))
  refine ⟨⟨hn, by rw [e1]; exact h1, by rw [e2]; exact h2, by rw [e3]; exact h3, by rw [e4]; exact h4, fun k hk2 hz => ?_, fun k p' hk2 hp2 => ?_, fun k j p1 p2 q hk2 hj g1 g2 z1 z2 => ?_⟩, fun q hq hF => ?_, fun q hq => ?_⟩
  · have hne : ¬ k = i := fun z => by rw [z, hp] at hz; cases hz
    rw [va_up_ne _ _ hne]
    exact ⟨(h5 k hk2 hz).1, fun j hj => by rw [pup_out M W hj hne]; exact (h5 k hk2 hz).2 j hj⟩
  · by_cases hne : k = i
    · subst hne
      have : p' = p := Option.some.inj (hp2.symm.trans hp)
      subst this
      rw [va_up_self]
      exact hg.congr (fun j hj => (pup_in M k W hj).symm)
    · rw [va_up_ne _ _ hne]
      exact (other k p' hk2 hp2 hne).1.congr (fun j hj => (pup_out M W hj hne).symm)
  · by_cases a1 : k = i <;> by_cases a2 : j = i
    · rw [a1, a2]
    · exfalso
      have c1 : p1 = p := Option.some.inj (g1.symm.trans (by rw [a1]; exact hp))
      subst c1
      have z3 := ((other j p2 hj g2 a2).2 q).mp z2
      rcases hk.2 q z1 with z4 | z4
      · exact a2 (h7 j i p2 p1 q hj hi g2 hp z3 z4)
      · exact (h6 j p2 hj g2).here z3 z4
    · exfalso
      have c1 : p2 = p := Option.some.inj (g2.symm.trans (by rw [a2]; exact hp))
      subst c1
      have z3 := ((other k p1 hk2 g1 a1).2 q).mp z1
      rcases hk.2 q z2 with z4 | z4
      · exact a1 (h7 k i p1 p2 q hk2 hi g1 hp z3 z4)
      · exact (h6 k p1 hk2 g1).here z3 z4
    · exact h7 k j p1 p2 q hk2 hj g1 g2 (((other k p1 hk2 g1 a1).2 q).mp z1) (((other j p2 hj g2 a2).2 q).mp z2)
  · refine hk.1 q hq (fun z => hF ?_)
    rw [sfp_iff h1 h2]
    exact Or.inr (Or.inr (Or.inr (Or.inr ⟨i, p, hi, hp, z⟩)))
  · rw [sfp_iff (by rw [e1]; exact h1) (by rw [e2]; exact h2)] at hq
    rcases hq with g | g | g | g | ⟨k, p', g1, g2, g3⟩
    · exact Or.inl ((sfp_iff h1 h2 q).mpr (Or.inl g))
    · exact Or.inl ((sfp_iff h1 h2 q).mpr (Or.inr (Or.inl g)))
    · exact Or.inl ((sfp_iff h1 h2 q).mpr (Or.inr (Or.inr (Or.inl g))))
    · exact Or.inl ((sfp_iff h1 h2 q).mpr (Or.inr (Or.inr (Or.inr (Or.inl g)))))
    · by_cases a1 : k = i
      · have c1 : p' = p := Option.some.inj (g2.symm.trans (by rw [a1]; exact hp))
        subst c1
        rcases hk.2 q g3 with z4 | z4
        · exact Or.inl ((sfp_iff h1 h2 q).mpr (Or.inr (Or.inr (Or.inr (Or.inr ⟨k, p', g1, g2, z4⟩)))))
        · exact Or.inr z4
      · exact Or.inl ((sfp_iff h1 h2 q).mpr (Or.inr (Or.inr (Or.inr (Or.inr ⟨k, p', g1, g2, ((other k p' g1 g2 a1).2 q).mp g3⟩)))))
/-- a page is made for a place that had none -/
theorem sm_grow {cJ cI cP : ClassId} {w : Nat → Option va_E} {h n : Nat} {M T : Nat → Int64} {ra : Nat → Int64} {rs : Nat → Int32} {aT aA aS : Nat} {pt : Nat → Option Nat} (H : sm cJ cI cP w h n M T ra rs aT aA aS pt) {i q : Nat} (hi : i < n) (hp : pt i = none) (hq : w q = none) :
    sm cJ cI cP (va_up (va_up w q (some (pgE none 1 0 0 0))) aT (some (.inl (cP, n, .inr (.inr (.inr (.inr (va_up pt i (some q)))))))))  h n M T ra rs aT aA aS (va_up pt i (some q)) ∧ kp w (va_up (va_up w q (some (pgE none 1 0 0 0))) aT (some (.inl (cP, n, .inr (.inr (.inr (.inr (va_up pt i (some q))))))))) (sfp w h) (sfp (va_up (va_up w q (some (pgE none 1 0 0 0))) aT (some (.inl (cP, n, .inr (.inr (.inr (.inr (va_up pt i (some q))))))))) h) := by
  obtain ⟨hn, h1, h2, h3, h4, h5, h6, h7⟩ := H
  obtain ⟨w', ew⟩ : ∃ x, x = va_up (va_up w q (some (pgE none 1 0 0 0))) aT (some (.inl (cP, n, .inr (.inr (.inr (.inr (va_up pt i (some q))))))) : Option va_E) := ⟨_, rfl⟩
  rw [← ew]
  have qT : ¬ q = aT := fun z => by rw [z, h2] at hq; cases hq
  have hT : w' aT = some (.inl (cP, n, .inr (.inr (.inr (.inr (va_up pt i (some q))))))) := by rw [ew, va_up_self]
  have hQ : w' q = some (pgE none 1 0 0 0) := by rw [ew, va_up_ne _ _ qT, va_up_self]
  have oth : ∀ a, ¬ w a = none → ¬ a = aT → w' a = w a := fun a ha hne => by
    rw [ew, va_up_ne _ _ hne, va_up_ne _ _ (fun z => ha (by rw [z]; exact hq))]
  have nT : ∀ x : Nat, ∀ e : va_E, w x = some e → e ≠ .inl (cP, n, .inr (.inr (.inr (.inr pt)))) → ¬ x = aT := fun x e hx hne z => by
    rw [z, h2] at hx; exact hne (Option.some.inj hx).symm
  have e1 : w' h = w h := oth h (by rw [h1]; simp) (nT h _ h1 (by simp [smE]))
  have e3 : w' aA = w aA := oth aA (by rw [h3]; simp) (nT aA _ h3 (by simp))
  have e4 : w' aS = w aS := oth aS (by rw [h4]; simp) (nT aS _ h4 (by simp))
  have old : ∀ k p', k < n → pt k = some p' → pg cJ w' p' (fun j => M (512 * k + j)) (T k) ∧ ∀ z, pfp w' p' z ↔ pfp w p' z := fun k p' hk hp2 =>
    (h6 k p' hk hp2).kept (fun z hz => oth z ((h6 k p' hk hp2).here hz) (fun y => by
      subst y
      rcases (h6 k p' hk hp2).what hz with ⟨_, e⟩ | ⟨_, e⟩ <;> rw [h2] at e <;> simp at e))
  have newp : ∀ z, pfp w' q z ↔ z = q := fun z => by
    unfold pfp
    rw [pgw_of hQ]
    simp
  have hold : ∀ k p', k < n → va_up pt i (some q) k = some p' → (k = i ∧ p' = q) ∨ (¬ k = i ∧ pt k = some p') := fun k p' hk hp2 => by
    by_cases hki : k = i
    · rw [hki, va_up_self] at hp2
      exact Or.inl ⟨hki, (Option.some.inj hp2).symm⟩
    · rw [va_up_ne _ _ hki] at hp2
      exact Or.inr ⟨hki, hp2⟩
  have hz := h5 i hi hp
  have nzq : nzc (fun j => M (512 * i + j)) 512 = 0 := (nzc_0 _ 512).mpr (fun j hj => hz.2 j hj)
  refine ⟨⟨hn, by rw [e1]; exact h1, hT, by rw [e3]; exact h3, by rw [e4]; exact h4, fun k hk hz2 => ?_, fun k p' hk hp2 => ?_, fun k j p1 p2 z hk hj g1 g2 z1 z2 => ?_⟩, fun z hz1 hF => ?_, fun z hz1 => ?_⟩
  · have hki : ¬ k = i := fun y => by rw [y, va_up_self] at hz2; cases hz2
    rw [va_up_ne _ _ hki] at hz2
    exact h5 k hk hz2
  · rcases hold k p' hk hp2 with ⟨rfl, rfl⟩ | ⟨hki, hp3⟩
    · refine ⟨none, 1, 0, by rw [nzq, hz.1]; exact hQ, Or.inr rfl, fun _ j hj => hz.2 j hj, fun y => absurd y (by decide), fun a ha => absurd ha (by simp)⟩
    · exact (old k p' hk hp3).1
  · rcases hold k p1 hk g1 with ⟨a1, b1⟩ | ⟨a1, b1⟩ <;> rcases hold j p2 hj g2 with ⟨a2, b2⟩ | ⟨a2, b2⟩
    · rw [a1, a2]
    · exfalso
      subst b1
      rw [newp] at z1
      subst z1
      exact (h6 j p2 hj b2).here (((old j p2 hj b2).2 z).mp z2) hq
    · exfalso
      subst b2
      rw [newp] at z2
      subst z2
      exact (h6 k p1 hk b1).here (((old k p1 hk b1).2 z).mp z1) hq
    · exact h7 k j p1 p2 z hk hj b1 b2 (((old k p1 hk b1).2 z).mp z1) (((old j p2 hj b2).2 z).mp z2)
  · exact oth z hz1 (fun y => hF ((sfp_iff h1 h2 z).mpr (Or.inr (Or.inl y))))
  · rw [sfp_iff (by rw [e1]; exact h1) hT] at hz1
    rcases hz1 with g | g | g | g | ⟨k, p', g1, g2, g3⟩
    · exact Or.inl ((sfp_iff h1 h2 z).mpr (Or.inl g))
    · exact Or.inl ((sfp_iff h1 h2 z).mpr (Or.inr (Or.inl g)))
    · exact Or.inl ((sfp_iff h1 h2 z).mpr (Or.inr (Or.inr (Or.inl g))))
    · exact Or.inl ((sfp_iff h1 h2 z).mpr (Or.inr (Or.inr (Or.inr (Or.inl g)))))
    · rcases hold k p' g1 g2 with ⟨a1, b1⟩ | ⟨a1, b1⟩
      · subst b1
        rw [newp] at g3
        exact Or.inr (by rw [g3]; exact hq)
      · exact Or.inl ((sfp_iff h1 h2 z).mpr (Or.inr (Or.inr (Or.inr (Or.inr ⟨k, p', g1, b1, ((old k p' g1 b1).2 z).mp g3⟩)))))
/-- the two arrays of reservations are written -/
theorem sm_ra {cJ cI cP : ClassId} {w : Nat → Option va_E} {h n : Nat} {M T : Nat → Int64} {ra : Nat → Int64} {rs : Nat → Int32} {aT aA aS : Nat} {pt : Nat → Option Nat} (H : sm cJ cI cP w h n M T ra rs aT aA aS pt) (ra' : Nat → Int64) :
    sm cJ cI cP (va_up w aA (some (.inl (cJ, 4, .inr (.inl ra'))))) h n M T ra' rs aT aA aS pt ∧ kp w (va_up w aA (some (.inl (cJ, 4, .inr (.inl ra'))))) (sfp w h) (sfp (va_up w aA (some (.inl (cJ, 4, .inr (.inl ra'))))) h) := by
  obtain ⟨hn, h1, h2, h3, h4, h5, h6, h7⟩ := H
  obtain ⟨w', ew⟩ : ∃ x, x = va_up w aA (some (.inl (cJ, 4, .inr (.inl ra'))) : Option va_E) := ⟨_, rfl⟩
  rw [← ew]
  have oth : ∀ a, ¬ a = aA → w' a = w a := fun a hne => by rw [ew, va_up_ne _ _ hne]
  have e1 : w' h = w h := oth h (fun z => by rw [z, h3] at h1; simp [smE] at h1)
  have e2 : w' aT = w aT := oth aT (fun z => by rw [z, h3] at h2; simp at h2)
  have e4 : w' aS = w aS := oth aS (fun z => by rw [z, h3] at h4; simp at h4)
  have old : ∀ k p', k < n → pt k = some p' → pg cJ w' p' (fun j => M (512 * k + j)) (T k) ∧ ∀ z, pfp w' p' z ↔ pfp w p' z := fun k p' hk hp2 =>
    (h6 k p' hk hp2).kept (fun z hz => oth z (fun y => by
      subst y
      rcases (h6 k p' hk hp2).what hz with ⟨_, e⟩ | ⟨_, e⟩ <;> rw [h3] at e <;> simp at e))
  refine ⟨⟨hn, by rw [e1]; exact h1, by rw [e2]; exact h2, by rw [ew, va_up_self], by rw [e4]; exact h4, h5, fun k p' hk hp2 => (old k p' hk hp2).1, fun k j p1 p2 z hk hj g1 g2 z1 z2 => h7 k j p1 p2 z hk hj g1 g2 (((old k p1 hk g1).2 z).mp z1) (((old j p2 hj g2).2 z).mp z2)⟩, fun z hz1 hF => ?_, fun z hz1 => Or.inl ?_⟩
  · exact oth z (fun y => hF ((sfp_iff h1 h2 z).mpr (Or.inr (Or.inr (Or.inl y)))))
  · rw [sfp_iff (by rw [e1]; exact h1) (by rw [e2]; exact h2)] at hz1
    rw [sfp_iff h1 h2]
    rcases hz1 with g | g | g | g | ⟨k, p', g1, g2, g3⟩
    · exact Or.inl g
    · exact Or.inr (Or.inl g)
    · exact Or.inr (Or.inr (Or.inl g))
    · exact Or.inr (Or.inr (Or.inr (Or.inl g)))
    · exact Or.inr (Or.inr (Or.inr (Or.inr ⟨k, p', g1, g2, ((old k p' g1 g2).2 z).mp g3⟩)))
theorem sm_rs {cJ cI cP : ClassId} {w : Nat → Option va_E} {h n : Nat} {M T : Nat → Int64} {ra : Nat → Int64} {rs : Nat → Int32} {aT aA aS : Nat} {pt : Nat → Option Nat} (H : sm cJ cI cP w h n M T ra rs aT aA aS pt) (rs' : Nat → Int32) :
    sm cJ cI cP (va_up w aS (some (.inl (cI, 4, .inl rs')))) h n M T ra rs' aT aA aS pt ∧ kp w (va_up w aS (some (.inl (cI, 4, .inl rs')))) (sfp w h) (sfp (va_up w aS (some (.inl (cI, 4, .inl rs')))) h) := by
  obtain ⟨hn, h1, h2, h3, h4, h5, h6, h7⟩ := H
  obtain ⟨w', ew⟩ : ∃ x, x = va_up w aS (some (.inl (cI, 4, .inl rs')) : Option va_E) := ⟨_, rfl⟩
  rw [← ew]
  have oth : ∀ a, ¬ a = aS → w' a = w a := fun a hne => by rw [ew, va_up_ne _ _ hne]
  have e1 : w' h = w h := oth h (fun z => by rw [z, h4] at h1; simp [smE] at h1)
  have e2 : w' aT = w aT := oth aT (fun z => by rw [z, h4] at h2; simp at h2)
  have e3 : w' aA = w aA := oth aA (fun z => by rw [z, h4] at h3; simp at h3)
  have old : ∀ k p', k < n → pt k = some p' → pg cJ w' p' (fun j => M (512 * k + j)) (T k) ∧ ∀ z, pfp w' p' z ↔ pfp w p' z := fun k p' hk hp2 =>
    (h6 k p' hk hp2).kept (fun z hz => oth z (fun y => by
      subst y
      rcases (h6 k p' hk hp2).what hz with ⟨_, e⟩ | ⟨_, e⟩ <;> rw [h4] at e <;> simp at e))
  refine ⟨⟨hn, by rw [e1]; exact h1, by rw [e2]; exact h2, by rw [e3]; exact h3, by rw [ew, va_up_self], h5, fun k p' hk hp2 => (old k p' hk hp2).1, fun k j p1 p2 z hk hj g1 g2 z1 z2 => h7 k j p1 p2 z hk hj g1 g2 (((old k p1 hk g1).2 z).mp z1) (((old j p2 hj g2).2 z).mp z2)⟩, fun z hz1 hF => ?_, fun z hz1 => Or.inl ?_⟩
  · exact oth z (fun y => hF ((sfp_iff h1 h2 z).mpr (Or.inr (Or.inr (Or.inr (Or.inl y))))))
  · rw [sfp_iff (by rw [e1]; exact h1) (by rw [e2]; exact h2)] at hz1
    rw [sfp_iff h1 h2]
    rcases hz1 with g | g | g | g | ⟨k, p', g1, g2, g3⟩
    · exact Or.inl g
    · exact Or.inr (Or.inl g)
    · exact Or.inr (Or.inr (Or.inl g))
    · exact Or.inr (Or.inr (Or.inr (Or.inl g)))
    · exact Or.inr (Or.inr (Or.inr (Or.inr ⟨k, p', g1, g2, ((old k p' g1 g2).2 z).mp g3⟩)))
/-- other cells change: the class's object stays as it is -/
theorem sm_off {cJ cI cP : ClassId} {w w' : Nat → Option va_E} {h n : Nat} {M T : Nat → Int64} {ra : Nat → Int64} {rs : Nat → Int32} {aT aA aS : Nat} {pt : Nat → Option Nat} (H : sm cJ cI cP w h n M T ra rs aT aA aS pt) (hk : ∀ q, sfp w h q → w' q = w q) : sm cJ cI cP w' h n M T ra rs aT aA aS pt ∧ ∀ q, sfp w' h q ↔ sfp w h q := by
  obtain ⟨hn, h1, h2, h3, h4, h5, h6, h7⟩ := H
  have e1 : w' h = w h := hk h ((sfp_iff h1 h2 h).mpr (Or.inl rfl))
  have e2 : w' aT = w aT := hk aT ((sfp_iff h1 h2 aT).mpr (Or.inr (Or.inl rfl)))
  have e3 : w' aA = w aA := hk aA ((sfp_iff h1 h2 aA).mpr (Or.inr (Or.inr (Or.inl rfl))))
  have e4 : w' aS = w aS := hk aS ((sfp_iff h1 h2 aS).mpr (Or.inr (Or.inr (Or.inr (Or.inl rfl)))))
  have old : ∀ k p', k < n → pt k = some p' → pg cJ w' p' (fun j => M (512 * k + j)) (T k) ∧ ∀ z, pfp w' p' z ↔ pfp w p' z := fun k p' hk1 hp2 =>
    (h6 k p' hk1 hp2).kept (fun z hz => hk z ((sfp_iff h1 h2 z).mpr (Or.inr (Or.inr (Or.inr (Or.inr ⟨k, p', hk1, hp2, hz⟩))))))
  refine ⟨⟨hn, by rw [e1]; exact h1, by rw [e2]; exact h2, by rw [e3]; exact h3, by rw [e4]; exact h4, h5, fun k p' hk hp2 => (old k p' hk hp2).1, fun k j p1 p2 z hk hj g1 g2 z1 z2 => h7 k j p1 p2 z hk hj g1 g2 (((old k p1 hk g1).2 z).mp z1) (((old j p2 hj g2).2 z).mp z2)⟩, fun z => ?_⟩
  rw [sfp_iff (by rw [e1]; exact h1) (by rw [e2]; exact h2), sfp_iff h1 h2]
  constructor
  · rintro (g | g | g | g | ⟨k, p', g1, g2, g3⟩)
    · exact Or.inl g
    · exact Or.inr (Or.inl g)
    · exact Or.inr (Or.inr (Or.inl g))
    · exact Or.inr (Or.inr (Or.inr (Or.inl g)))
    · exact Or.inr (Or.inr (Or.inr (Or.inr ⟨k, p', g1, g2, ((old k p' g1 g2).2 z).mp g3⟩)))
  · rintro (g | g | g | g | ⟨k, p', g1, g2, g3⟩)
    · exact Or.inl g
    · exact Or.inr (Or.inl g)
    · exact Or.inr (Or.inr (Or.inl g))
    · exact Or.inr (Or.inr (Or.inr (Or.inl g)))
    · exact Or.inr (Or.inr (Or.inr (Or.inr ⟨k, p', g1, g2, ((old k p' g1 g2).2 z).mpr g3⟩)))
/-- a page behind some writes -/
theorem pg_fin {cJ : ClassId} {w w3 : Nat → Option va_E} {p : Nat} {wr0 wr : Option Nat} {ev0 ev : Int32} {ew0 ew : Int64} {nz0 nz : Int32} {tw0 tw : Int64} {W : Nat → Int64} (h0 : w p = some (pgE wr0 ev0 ew0 nz0 tw0)) (h3 : w3 p = some (pgE wr ev ew nz tw)) (hwr : ∀ a, wr = some a → wr0 = some a ∨ w a = none) (oth : ∀ q, ¬ q = p → ¬ wr = some q → w3 q = w q)
    (hz : nz = nI (nzc W 512)) (h2 : ev = 0 ∨ ev = 1) (he : ev = 1 → ∀ i, i < 512 → W i = ew) (hn : ev = 0 → ¬ wr = none) (ha : ∀ a, wr = some a → ∃ f : Nat → Int64, w3 a = some (.inl (cJ, 512, .inr (.inl f))) ∧ (ev = 0 → ∀ i, i < 512 → f i = W i)) : pg cJ w3 p W tw ∧ kp w w3 (pfp w p) (pfp w3 p) := by
  refine ⟨⟨wr, ev, ew, by rw [← hz]; exact h3, h2, he, hn, ha⟩, fun q hq hF => ?_, fun q hq => ?_⟩
  · unfold pfp at hF
    rw [pgw_of h0] at hF
    refine oth q (fun z => hF (Or.inl z)) (fun z => ?_)
    rcases hwr q z with g | g
    · exact hF (Or.inr g)
    · exact hq g
  · unfold pfp at hq ⊢
    rw [pgw_of h3] at hq
    rw [pgw_of h0]
    rcases hq with g | g
    · exact Or.inl (Or.inl g)
    · rcases hwr q g with y | y
      · exact Or.inl (Or.inr y)
      · exact Or.inr y
