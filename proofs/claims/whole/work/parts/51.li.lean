/-! BOTH SIDES BESIDE EACH OTHER -/
/-- the class's cells are none of the reference's, nor the law's own array -/
def dj (w : Nat → Option va_E) (h hm ao aW aU aP aZ : Nat) : Prop := ∀ q, sfp w h q → ¬ q = hm ∧ ¬ q = aW ∧ ¬ q = aU ∧ ¬ q = aP ∧ ¬ q = aZ ∧ ¬ q = ao
/-- the reference at M T ra rs, the class at M' T' ra' rs' -/
def hv (cJ cI cP : ClassId) (w : Nat → Option va_E) (h hm ao n : Nat) (cd : Int32) (M T ra : Nat → Int64) (rs : Nat → Int32) (M' T' ra' : Nat → Int64) (rs' : Nat → Int32) (aT aA aS : Nat) (pt : Nat → Option Nat) (aW aU aP aZ : Nat) (O : Nat → Int64) : Prop :=
  sm cJ cI cP w h n M' T' ra' rs' aT aA aS pt ∧ mo cJ cI w hm n cd M T ra rs aW aU aP aZ ∧ w ao = some (oE cJ O) ∧ dj w h hm ao aW aU aP aZ
/-- between two calls of the law both are at the same -/
def LI (cJ cI cP : ClassId) (h hm ao : Nat) (w : Nat → Option va_E) : Prop := ∃ (n : Nat) (cd : Int32) (M T ra : Nat → Int64) (rs : Nat → Int32) (aT aA aS : Nat) (pt : Nat → Option Nat) (aW aU aP aZ : Nat) (O : Nat → Int64), hv cJ cI cP w h hm ao n cd M T ra rs M T ra rs aT aA aS pt aW aU aP aZ O ∧ rok ra n
section HV
variable {cJ cI cP : ClassId} {w u : Nat → Option va_E} {h hm ao n : Nat} {cd : Int32} {M T ra : Nat → Int64} {rs : Nat → Int32} {M' T' ra' : Nat → Int64} {rs' : Nat → Int32} {aT aA aS : Nat} {pt : Nat → Option Nat} {aW aU aP aZ : Nat} {O : Nat → Int64}
theorem hv_S {M2 T2 ra2 : Nat → Int64} {rs2 : Nat → Int32} {pt2 : Nat → Option Nat} (H : hv cJ cI cP w h hm ao n cd M T ra rs M' T' ra' rs' aT aA aS pt aW aU aP aZ O) (hk : kp w u (sfp w h) (sfp u h)) (hs : sm cJ cI cP u h n M2 T2 ra2 rs2 aT aA aS pt2) : hv cJ cI cP u h hm ao n cd M T ra rs M2 T2 ra2 rs2 aT aA aS pt2 aW aU aP aZ O := by
  obtain ⟨h1, ⟨hn, g1, g2, g3, g4, g5⟩, h3, h4⟩ := H
  have k1 : u hm = w hm := hk.1 hm (by rw [g1]; simp) (fun z => (h4 _ z).1 rfl)
  have k2 : u aW = w aW := hk.1 aW (by rw [g2]; simp) (fun z => (h4 _ z).2.1 rfl)
  have k3 : u aU = w aU := hk.1 aU (by rw [g3]; simp) (fun z => (h4 _ z).2.2.1 rfl)
  have k4 : u aP = w aP := hk.1 aP (by rw [g4]; simp) (fun z => (h4 _ z).2.2.2.1 rfl)
  have k5 : u aZ = w aZ := hk.1 aZ (by rw [g5]; simp) (fun z => (h4 _ z).2.2.2.2.1 rfl)
  have k6 : u ao = w ao := hk.1 ao (by rw [h3]; simp) (fun z => (h4 _ z).2.2.2.2.2 rfl)
  refine ⟨hs, ⟨hn, by rw [k1]; exact g1, by rw [k2]; exact g2, by rw [k3]; exact g3, by rw [k4]; exact g4, by rw [k5]; exact g5⟩, by rw [k6]; exact h3, fun q hq => ?_⟩
  rcases hk.2 q hq with z | z
  · exact h4 q z
  · refine ⟨?_, ?_, ?_, ?_, ?_, ?_⟩ <;> intro e <;> subst e
    · rw [g1] at z; cases z
    · rw [g2] at z; cases z
    · rw [g3] at z; cases z
    · rw [g4] at z; cases z
    · rw [g5] at z; cases z
    · rw [h3] at z; cases z
theorem hv_O (H : hv cJ cI cP w h hm ao n cd M T ra rs M' T' ra' rs' aT aA aS pt aW aU aP aZ O) (O2 : Nat → Int64) : hv cJ cI cP (va_up w ao (some (oE cJ O2))) h hm ao n cd M T ra rs M' T' ra' rs' aT aA aS pt aW aU aP aZ O2 := by
  obtain ⟨h1, ⟨hn, g1, g2, g3, g4, g5⟩, h3, h4⟩ := H
  obtain ⟨k1, k2⟩ := sm_off (w' := va_up w ao (some (oE cJ O2))) h1 (fun q hq => va_up_ne _ _ (h4 q hq).2.2.2.2.2)
  refine ⟨k1, ⟨hn, ?_, ?_, ?_, ?_, ?_⟩, va_up_self _ _ _, fun q hq => h4 q ((k2 q).mp hq)⟩
  · rw [va_up_ne _ _ (fun z => by rw [z, h3] at g1; cases g1)]; exact g1
  · rw [va_up_ne _ _ (fun z => by rw [z, h3] at g2; simp at g2)]; exact g2
  · rw [va_up_ne _ _ (fun z => by rw [z, h3] at g3; simp at g3)]; exact g3
  · rw [va_up_ne _ _ (fun z => by rw [z, h3] at g4; simp at g4)]; exact g4
  · rw [va_up_ne _ _ (fun z => by rw [z, h3] at g5; simp at g5)]; exact g5
theorem hv_M {cd2 : Int32} {M2 T2 ra2 : Nat → Int64} {rs2 : Nat → Int32} (H : hv cJ cI cP w h hm ao n cd M T ra rs M' T' ra' rs' aT aA aS pt aW aU aP aZ O) (hk : kM w u hm aW aU aP aZ) (hm2 : mo cJ cI u hm n cd2 M2 T2 ra2 rs2 aW aU aP aZ) : hv cJ cI cP u h hm ao n cd2 M2 T2 ra2 rs2 M' T' ra' rs' aT aA aS pt aW aU aP aZ O := by
  obtain ⟨h1, ⟨hn, g1, g2, g3, g4, g5⟩, h3, h4⟩ := H
  obtain ⟨k1, k2⟩ := sm_off (w' := u) h1 (fun q hq => hk q (h4 q hq).1 (h4 q hq).2.1 (h4 q hq).2.2.1 (h4 q hq).2.2.2.1 (h4 q hq).2.2.2.2.1)
  refine ⟨k1, hm2, ?_, fun q hq => h4 q ((k2 q).mp hq)⟩
  rw [hk ao (fun z => by rw [z, g1] at h3; cases h3) (fun z => by rw [z, g2] at h3; simp at h3) (fun z => by rw [z, g3] at h3; simp at h3) (fun z => by rw [z, g4] at h3; simp at h3) (fun z => by rw [z, g5] at h3; simp at h3)]
  exact h3
theorem LI.of (H : hv cJ cI cP w h hm ao n cd M T ra rs M T ra rs aT aA aS pt aW aU aP aZ O) (hro : rok ra n) : LI cJ cI cP h hm ao w := ⟨n, cd, M, T, ra, rs, aT, aA, aS, pt, aW, aU, aP, aZ, O, H, hro⟩
end HV
theorem mb_inj {M M' : Nat → Int64} (h : mb M = mb M') : M = M' := by
  funext k
  apply bi_ext
  intro i hi
  have e := congrFun h (64 * k + i)
  unfold mb at e
  rw [show (64 * k + i) / 64 = k by omega, show (64 * k + i) % 64 = i by omega] at e
  exact e
theorem nk8 {k k' : Nat} (h : nI k = nI k') (h1 : k ≤ 8) (h2 : k' ≤ 8) : k = k' := nI_inj (by omega) (by omega) h
theorem inF_u {x y : Int64} {n a b a' b' : Nat} (hn : n ≤ 1024) (h1 : inF x y n a b) (h2 : inF x y n a' b') : a = a' ∧ b = b' := by
  obtain ⟨rfl, rfl, g1, g2⟩ := h1
  obtain ⟨e1, e2, g3, g4⟩ := h2
  have := (pk_lEQ (by omega) (by omega)).mp e1
  have := (pk_lEQ (by omega) (by omega)).mp e2
  omega
theorem k48 {k : Nat} (h : k = 4 ∨ k = 8) : k ≤ 8 := by rcases h with e | e <;> rw [e] <;> decide
/-- two ints of the script, the higher half first -/
def lg2 (a b : Int32) : Int64 := (a.toInt64 <<< ((32 : Int32).toInt64 &&& 63)) ||| (b.toInt64 &&& 4294967295)
section JA
variable {cJ cI cP : ClassId} {w u5 v7 w9 : Nat → Option va_E} {h hm ao n : Nat} {cd : Int32} {M T ra M9 M7 : Nat → Int64} {rs : Nat → Int32} {aT aA aS : Nat} {pt pt9 : Nat → Option Nat} {aW aU aP aZ : Nat} {O : Nat → Int64}
/-- behind the class's atomic the reference stands as before -/
theorem at_half {y : Int32} {v r9 : Int64} {j k a : Nat} (H : hv cJ cI cP w h hm ao n cd M T ra rs M T ra rs aT aA aS pt aW aU aP aZ O) (hd : doA cJ cI cP w h n M T ra rs aT aA aS pt y v j k a r9 (w9, M9, pt9)) (hu : u5 = va_up w9 ao (some (oE cJ (vp_updL O 0 r9)))) : ∃ (M1 T1 ra1 : Nat → Int64) (rs1 : Nat → Int32) (pt1 : Nat → Option Nat), hv cJ cI cP u5 h hm ao n cd M T ra rs M1 T1 ra1 rs1 aT aA aS pt1 aW aU aP aZ (vp_updL O 0 r9) := by
  obtain ⟨hk, hd⟩ := hd
  rw [hu]
  rcases hd with ⟨-, hs, -⟩ | ⟨-, ⟨-, -, -, hs, -⟩ | ⟨-, -, -, hs⟩⟩ | ⟨-, -, hs, -⟩
  · exact ⟨_, _, _, _, _, hv_O (hv_S H hk hs) _⟩
  · exact ⟨_, _, _, _, _, hv_O (hv_S H hk hs) _⟩
  · exact ⟨_, _, _, _, _, hv_O (hv_S H hk hs) _⟩
  · exact ⟨_, _, _, _, _, hv_O (hv_S H hk hs) _⟩
/-- and behind both they agree -/
theorem at_both {y : Int32} {v r9 b9 : Int64} {j k a : Nat} (H : hv cJ cI cP w h hm ao n cd M T ra rs M T ra rs aT aA aS pt aW aU aP aZ O) (hro : rok ra n) (hj : a < 4096 * n) (hd : doA cJ cI cP w h n M T ra rs aT aA aS pt y v j k a r9 (w9, M9, pt9)) (hu : u5 = va_up w9 ao (some (oE cJ (vp_updL O 0 r9)))) (hkm : kM u5 v7 hm aW aU aP aZ) (hb : doB cJ cI hm n M T ra rs aW aU aP aZ y v j k a b9 (v7, M7)) : r9 = b9 ∧ ∃ (M1 T1 ra1 : Nat → Int64) (rs1 : Nat → Int32) (pt1 : Nat → Option Nat), hv cJ cI cP v7 h hm ao n 0 M1 T1 ra1 rs1 M1 T1 ra1 rs1 aT aA aS pt1 aW aU aP aZ (vp_updL O 0 r9) ∧ rok ra1 n := by
  obtain ⟨hk, hd⟩ := hd
  subst hu
  have e23 : ¬ (2 : Int32) = 3 := by decide
  rcases hd with ⟨y2, hs, eM, num, er, hnum⟩ | ⟨y3, ⟨q1, q2, er, hs, hM⟩ | ⟨q1, er, eM, hs⟩⟩ | ⟨y2, y3, hs, hM, num, er, hnum⟩
  · rcases hb with ⟨z2, eM7, hmo, num', er', hnum'⟩ | ⟨z3, -⟩ | ⟨z2, z3, -⟩
    · have en : num = num' := bi_ext (fun i hi => (hnum i hi).trans (hnum' i hi).symm)
      refine ⟨by rw [er, er', en], _, _, _, _, _, hv_M (hv_O (hv_S H hk hs) _) hkm hmo, rok_s hro j hj⟩
    · exact absurd (y2.symm.trans z3) e23
    · exact absurd y2 z2
  · rcases hb with ⟨z2, -⟩ | ⟨z3, ⟨p1, p2, er', hmo, hM'⟩ | ⟨p1, -⟩⟩ | ⟨z2, z3, -⟩
    · exact absurd (z2.symm.trans y3) e23
    · have e9 : M9 = M7 := mb_inj (hM.trans hM'.symm)
      subst e9
      exact ⟨by rw [er, er'], _, _, _, _, _, hv_M (hv_O (hv_S H hk hs) _) hkm hmo, rok_lost (rok_0 hro j) _ _⟩
    · exact absurd ⟨q1, q2⟩ p1
    · exact absurd y3 z3
  · rcases hb with ⟨z2, -⟩ | ⟨z3, ⟨p1, p2, -⟩ | ⟨p1, er', eM', hmo⟩⟩ | ⟨z2, z3, -⟩
    · exact absurd (z2.symm.trans y3) e23
    · exact absurd ⟨p1, p2⟩ q1
    · exact ⟨by rw [er, er'], _, _, _, _, _, hv_M (hv_O (hv_S H hk hs) _) hkm hmo, rok_0 hro j⟩
    · exact absurd y3 z3
  · rcases hb with ⟨z2, -⟩ | ⟨z3, -⟩ | ⟨z2, z3, hmo, hM', num', er', hnum'⟩
    · exact absurd z2 y2
    · exact absurd z3 y3
    · have en : num = num' := bi_ext (fun i hi => (hnum i hi).trans (hnum' i hi).symm)
      have er9 : r9 = b9 := by rw [er, er', en]
      subst er9
      have e9 : M9 = M7 := mb_inj (hM.trans hM'.symm)
      subst e9
      exact ⟨rfl, _, _, _, _, _, hv_M (hv_O (hv_S H hk hs) _) hkm hmo, rok_lost hro _ _⟩
end JA
