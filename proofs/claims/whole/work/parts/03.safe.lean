/-! the cars, in pure numbers. ps c: 0 for a car that isn't ON, else one more than its spot; pg c: 0 for a car that isn't GRANTED, else one more than the spot; fr FRONT, sp SPEED, go GOAL, zs SIZE of cars; len, fm, tt of edges -/
def rd_D : Nat → Nat
  | 0 => 0
  | 1 => 0
  | v + 2 => v + rd_D v
theorem rd_D2 (v : Nat) : rd_D (v + 2) = v + rd_D v := rfl
theorem rd_D0 : rd_D 0 = 0 := rfl
theorem rd_Dc : ∀ v, v < 64 → rd_D v = v / 2 * ((v - 1) / 2) := by decide
theorem rd_Dm1 : ∀ v, rd_D v ≤ rd_D (v + 1)
  | 0 => by decide
  | 1 => by decide
  | v + 2 => by
    have h := rd_Dm1 v
    show v + rd_D v ≤ (v + 1) + rd_D (v + 1)
    omega
theorem rd_Dm {a b : Nat} (h : a ≤ b) : rd_D a ≤ rd_D b := by
  induction h with
  | refl => exact Nat.le_refl _
  | step _ ih => exact Nat.le_trans ih (rd_Dm1 _)
/-- a speed that falls by 2 at most -/
theorem rd_Dlow {v u : Nat} (h : v ≤ u + 2) : rd_D v ≤ u + rd_D u := by
  have h1 := rd_Dm h
  rw [rd_D2] at h1
  exact h1
theorem rd_Dreach {u g w : Nat} (h : u + rd_D u ≤ g + rd_D w) : u ≤ g + (w - 2) := by
  rcases Nat.lt_or_ge (g + (w - 2)) u with k | k
  · exfalso
    match w, h, k with
    | 0, h, k => have : rd_D 0 = 0 := rfl; omega
    | 1, h, k => have : rd_D 1 = 0 := rfl; omega
    | w + 2, h, k =>
      have e : w + 2 - 2 = w := by omega
      rw [e] at k
      have h1 : rd_D w ≤ rd_D u := rd_Dm (by omega)
      rw [rd_D2] at h
      omega
  · exact k
/-- who stands at p with speed v follows safely who stands at q with speed w and size s -/
def rd_Fo (p v q w s : Nat) : Prop := p + s + 1 ≤ q ∧ rd_D v + p + s + 1 ≤ q + rd_D w
/-- speed u is within the bound that this one sets -/
def rd_Bd (p u q w s : Nat) : Prop := u = 0 ∨ u + rd_D u + p + s + 1 ≤ q + rd_D w
theorem rd_FoT {p v q w s r x t : Nat} (h : rd_Fo p v q w s) (k : rd_Fo q w r x t) : rd_Fo p v r x t := by
  unfold rd_Fo at *
  omega
theorem rd_BdT {p u q w s r x t : Nat} (h : rd_Bd p u q w s) (k : rd_Fo q w r x t) : rd_Bd p u r x t := by
  unfold rd_Fo at k
  unfold rd_Bd at *
  omega
theorem rd_FoM {p v q w s u y : Nat} (h : rd_Fo p v q w s) (hu : rd_Bd p u q w s) (hy : w ≤ y + 2) : rd_Fo (p + u) u (q + y) y s := by
  unfold rd_Fo at *
  unfold rd_Bd at hu
  have h1 : rd_D w ≤ y + rd_D y := rd_Dlow hy
  rcases hu with h0 | h0
  · subst h0
    have e : rd_D 0 = 0 := rfl
    omega
  · have h2 : u + rd_D u ≤ (q - p - s - 1) + rd_D w := by omega
    have h3 := rd_Dreach h2
    omega
/-- v - 2 is within each bound -/
theorem rd_BdL {p v q w s : Nat} (h : rd_Fo p v q w s) : rd_Bd p (v - 2) q w s := by
  unfold rd_Fo at h
  unfold rd_Bd
  match v, h with
  | 0, _ => exact Or.inl rfl
  | 1, _ => exact Or.inl rfl
  | v + 2, h =>
    right
    have e : v + 2 - 2 = v := by omega
    rw [e]
    rw [rd_D2] at h
    omega
/-- bounds are closed downwards -/
theorem rd_BdD {p u u' q w s : Nat} (h : rd_Bd p u q w s) (k : u' ≤ u) : rd_Bd p u' q w s := by
  unfold rd_Bd at *
  have := rd_Dm k
  omega
theorem rd_FoS {p v q w s k p' q' : Nat} (h : rd_Fo p v q w s) (hp : p' + k = p) (hq : q' + k = q) : rd_Fo p' v q' w s := by
  unfold rd_Fo at *
  omega
theorem rd_FoA {p v q w s : Nat} (k : Nat) (h : rd_Fo p v q w s) : rd_Fo (p + k) v (q + k) w s := by
  unfold rd_Fo at *
  omega
def rd_q (p : Nat) : Nat := (p - 1) / 2
def rd_S1 (ps fr sp zs : Nat → Nat) : Prop := ∀ c a, c < 32 → a < 32 → c ≠ a → 0 < ps c → ps a = ps c → fr c ≠ fr a ∧ (fr c < fr a → rd_Fo (fr c) (sp c) (fr a) (sp a) (zs a))
def rd_S2 (len ps pg fr sp zs : Nat → Nat) : Prop := ∀ c b, c < 32 → b < 32 → 0 < pg c → ps b = pg c → rd_Fo (fr c) (sp c) (fr b + len (rd_q (ps c))) (sp b) (zs b)
def rd_S3 (len ps pg fr sp go : Nat → Nat) : Prop := ∀ c, c < 32 → 0 < ps c → (pg c = 0 → go c ≠ rd_q (ps c) → rd_D (sp c) + fr c ≤ len (rd_q (ps c))) ∧ (0 < pg c → go c ≠ rd_q (pg c) → rd_D (sp c) + fr c ≤ len (rd_q (ps c)) + len (rd_q (pg c)))
def rd_G (ps pg fr : Nat → Nat) : Prop := ∀ c a, c < 32 → a < 32 → 0 < pg c → ps a = ps c → fr c < fr a → pg a = pg c
def rd_H (tt ps pg : Nat → Nat) : Prop := ∀ c d, c < 32 → d < 32 → 0 < pg c → 0 < pg d → tt (rd_q (ps c)) = tt (rd_q (ps d)) → ps c = ps d ∧ pg c = pg d
def rd_B (len fm tt ps pg fr go : Nat → Nat) : Prop := ∀ c, c < 32 → (0 < ps c → 1 ≤ fr c ∧ fr c ≤ len (rd_q (ps c))) ∧ (0 < pg c → 0 < ps c ∧ fm (rd_q (pg c)) = tt (rd_q (ps c)) ∧ go c ≠ rd_q (ps c) ∧ rd_q (pg c) ≠ rd_q (ps c))
def rd_Safe (len fm tt ps pg fr sp go zs : Nat → Nat) : Prop := rd_S1 ps fr sp zs ∧ rd_S2 len ps pg fr sp zs ∧ rd_S3 len ps pg fr sp go ∧ rd_G ps pg fr ∧ rd_H tt ps pg ∧ rd_B len fm tt ps pg fr go
/-- what MOVES do to each car, its new speed being u -/
def rd_Mv (len ps pg fr go u ps' pg' fr' sp' : Nat → Nat) : Prop := ∀ c, c < 32 →
  (ps c = 0 → ps' c = 0 ∧ pg' c = 0) ∧
  (0 < ps c → fr c + u c ≤ len (rd_q (ps c)) → ps' c = ps c ∧ pg' c = pg c ∧ fr' c = fr c + u c ∧ sp' c = u c) ∧
  (0 < ps c → len (rd_q (ps c)) < fr c + u c → go c = rd_q (ps c) → ps' c = 0 ∧ pg' c = 0) ∧
  (0 < ps c → len (rd_q (ps c)) < fr c + u c → go c ≠ rd_q (ps c) → 0 < pg c ∧ ps' c = pg c ∧ pg' c = 0 ∧ fr' c + len (rd_q (ps c)) = fr c + u c ∧ sp' c = u c)
/-- the bounds that each new speed keeps -/
def rd_U (len ps pg fr sp go zs u : Nat → Nat) : Prop := ∀ c, c < 32 → 0 < ps c →
  sp c ≤ u c + 2 ∧
  (∀ a, a < 32 → ps a = ps c → fr c < fr a → rd_Bd (fr c) (u c) (fr a) (sp a) (zs a)) ∧
  (0 < pg c → ∀ b, b < 32 → ps b = pg c → rd_Bd (fr c) (u c) (fr b + len (rd_q (ps c))) (sp b) (zs b)) ∧
  (pg c = 0 → go c ≠ rd_q (ps c) → u c = 0 ∨ u c + rd_D (u c) + fr c ≤ len (rd_q (ps c))) ∧
  (0 < pg c → go c ≠ rd_q (pg c) → u c = 0 ∨ u c + rd_D (u c) + fr c ≤ len (rd_q (ps c)) + len (rd_q (pg c)))
section
variable {len fm tt ps pg fr sp go zs u ps' pg' fr' sp' : Nat → Nat}
/-- ON after MOVES: stayed or crossed -/
theorem rd_Mvc (M : rd_Mv len ps pg fr go u ps' pg' fr' sp') {c : Nat} (hc : c < 32) (h : 0 < ps' c) :
    0 < ps c ∧ ((fr c + u c ≤ len (rd_q (ps c)) ∧ ps' c = ps c ∧ pg' c = pg c ∧ fr' c = fr c + u c ∧ sp' c = u c) ∨ (len (rd_q (ps c)) < fr c + u c ∧ go c ≠ rd_q (ps c) ∧ 0 < pg c ∧ ps' c = pg c ∧ pg' c = 0 ∧ fr' c + len (rd_q (ps c)) = fr c + u c ∧ sp' c = u c)) := by
  obtain ⟨m1, m2, m3, m4⟩ := M c hc
  have hs : 0 < ps c := by
    rcases Nat.eq_zero_or_pos (ps c) with k | k
    · have := (m1 k).1; omega
    · exact k
  refine ⟨hs, ?_⟩
  rcases Nat.lt_or_ge (len (rd_q (ps c))) (fr c + u c) with k | k
  · rcases Nat.decEq (go c) (rd_q (ps c)) with g | g
    · obtain ⟨a1, a2, a3, a4, a5⟩ := m4 hs k g
      exact Or.inr ⟨k, g, a1, a2, a3, a4, a5⟩
    · have := (m3 hs k g).1; omega
  · obtain ⟨a1, a2, a3, a4⟩ := m2 hs k
    exact Or.inl ⟨k, a1, a2, a3, a4⟩
theorem rd_Mvg (M : rd_Mv len ps pg fr go u ps' pg' fr' sp') {c : Nat} (hc : c < 32) (h : 0 < pg' c) :
    0 < ps c ∧ 0 < ps' c ∧ fr c + u c ≤ len (rd_q (ps c)) ∧ ps' c = ps c ∧ pg' c = pg c ∧ fr' c = fr c + u c ∧ sp' c = u c := by
  obtain ⟨m1, m2, m3, m4⟩ := M c hc
  have hs : 0 < ps c := by
    rcases Nat.eq_zero_or_pos (ps c) with k | k
    · have := (m1 k).2; omega
    · exact k
  rcases Nat.lt_or_ge (len (rd_q (ps c))) (fr c + u c) with k | k
  · rcases Nat.decEq (go c) (rd_q (ps c)) with g | g
    · have := (m4 hs k g).2.2.1; omega
    · have := (m3 hs k g).2; omega
  · obtain ⟨a1, a2, a3, a4⟩ := m2 hs k
    exact ⟨hs, by omega, k, a1, a2, a3, a4⟩
/-- of two cars of a lane the one behind stays behind, safely -/
theorem rd_m1 (hS : rd_S1 ps fr sp zs) (hU : rd_U len ps pg fr sp go zs u) {c a : Nat} (hc : c < 32) (ha : a < 32) (sc : 0 < ps c) (he : ps a = ps c) (hf : fr c < fr a) : rd_Fo (fr c + u c) (u c) (fr a + u a) (u a) (zs a) := by
  have hca : c ≠ a := by intro z; subst z; omega
  obtain ⟨_, uL, _⟩ := hU c hc sc
  exact rd_FoM ((hS c a hc ha hca sc he).2 hf) (uL a ha he hf) (hU a ha (by omega)).1
theorem rd_m2 (hB : rd_B len fm tt ps pg fr go) (hS : rd_S2 len ps pg fr sp zs) (hU : rd_U len ps pg fr sp go zs u) {c b : Nat} (hc : c < 32) (hb : b < 32) (gc : 0 < pg c) (he : ps b = pg c) : rd_Fo (fr c + u c) (u c) (fr b + len (rd_q (ps c)) + u b) (u b) (zs b) := by
  obtain ⟨_, _, uG, _⟩ := hU c hc ((hB c hc).2 gc).1
  exact rd_FoM (hS c b hc hb gc he) (uG gc b hb he) (hU b hb (by omega)).1
theorem rd_mS1 (hB : rd_B len fm tt ps pg fr go) (h1 : rd_S1 ps fr sp zs) (h2 : rd_S2 len ps pg fr sp zs) (hH : rd_H tt ps pg) (hU : rd_U len ps pg fr sp go zs u) (M : rd_Mv len ps pg fr go u ps' pg' fr' sp') : rd_S1 ps' fr' sp' zs := by
  have key : ∀ c a, c < 32 → a < 32 → c ≠ a → 0 < ps' c → ps' a = ps' c → rd_Fo (fr' c) (sp' c) (fr' a) (sp' a) (zs a) ∨ rd_Fo (fr' a) (sp' a) (fr' c) (sp' c) (zs c) := by
    intro c a hc ha hca sc he
    obtain ⟨c2, C⟩ := rd_Mvc M hc sc
    obtain ⟨a2, A⟩ := rd_Mvc M ha (by omega)
    rcases C with ⟨_, ce, _, cf, cs⟩ | ⟨_, _, cg, ce, _, cf, cs⟩
    · rcases A with ⟨_, ae, _, af, as⟩ | ⟨_, _, ag, ae, _, af, as⟩
      · rw [cf, cs, af, as]
        have e1 : ps a = ps c := by rw [← ce, ← ae, he]
        rcases Nat.lt_or_gt_of_ne (h1 c a hc ha hca c2 e1).1 with k | k
        · exact Or.inl (rd_m1 h1 hU hc ha c2 e1 k)
        · exact Or.inr (rd_m1 h1 hU ha hc a2 e1.symm k)
      · have e1 : ps c = pg a := by rw [← ce, ← ae, he]
        have f := rd_m2 hB h2 hU ha hc ag e1
        rw [cs, as]
        exact Or.inr (rd_FoS (k := len (rd_q (ps a))) f af (by omega))
    · rcases A with ⟨_, ae, _, af, as⟩ | ⟨_, _, ag, ae, _, af, as⟩
      · have e1 : ps a = pg c := by rw [← ce, ← ae, he]
        have f := rd_m2 hB h2 hU hc ha cg e1
        rw [cs, as]
        exact Or.inl (rd_FoS (k := len (rd_q (ps c))) f cf (by omega))
      · have n1 : pg a = pg c := by rw [← ce, ← ae, he]
        have t1 : tt (rd_q (ps c)) = tt (rd_q (ps a)) := by rw [← ((hB c hc).2 cg).2.1, ← ((hB a ha).2 ag).2.1, n1]
        obtain ⟨e1, _⟩ := hH c a hc ha cg ag t1
        rw [cs, as]
        rw [← e1] at af
        rcases Nat.lt_or_gt_of_ne (h1 c a hc ha hca c2 e1.symm).1 with k | k
        · exact Or.inl (rd_FoS (rd_m1 h1 hU hc ha c2 e1.symm k) cf af)
        · exact Or.inr (rd_FoS (rd_m1 h1 hU ha hc a2 e1 k) af cf)
  intro c a hc ha hca sc he
  rcases key c a hc ha hca sc he with k | k
  · exact ⟨by have := k.1; omega, fun _ => k⟩
  · exact ⟨by have := k.1; omega, fun h => by have := k.1; omega⟩
theorem rd_mS2 (hB : rd_B len fm tt ps pg fr go) (h1 : rd_S1 ps fr sp zs) (h2 : rd_S2 len ps pg fr sp zs) (hH : rd_H tt ps pg) (hU : rd_U len ps pg fr sp go zs u) (M : rd_Mv len ps pg fr go u ps' pg' fr' sp') : rd_S2 len ps' pg' fr' sp' zs := by
  intro c b hc hb gc he
  obtain ⟨c2, _, cL, ce, cg, cf, cs⟩ := rd_Mvg M hc gc
  obtain ⟨b2, A⟩ := rd_Mvc M hb (by omega)
  rw [cg] at gc he
  rw [ce, cf, cs]
  rcases A with ⟨_, ae, _, af, as⟩ | ⟨aL, _, ag, ae, _, af, as⟩
  · rw [ae] at he
    rw [af, as]
    have f := rd_m2 hB h2 hU hc hb gc he
    exact rd_FoS (k := 0) f rfl (by omega)
  · rw [ae] at he
    have t1 : tt (rd_q (ps c)) = tt (rd_q (ps b)) := by rw [← ((hB c hc).2 gc).2.1, ← ((hB b hb).2 ag).2.1, he]
    obtain ⟨e1, _⟩ := hH c b hc hb gc ag t1
    rw [as]
    rw [← e1] at aL af
    have hcb : c ≠ b := by intro z; subst z; omega
    rcases Nat.lt_or_gt_of_ne (h1 c b hc hb hcb c2 e1.symm).1 with k | k
    · have f := rd_m1 h1 hU hc hb c2 e1.symm k
      exact rd_FoS (k := 0) f rfl (by omega)
    · have f := rd_m1 h1 hU hb hc b2 e1 k
      have := f.1
      omega
theorem rd_mS3 (hU : rd_U len ps pg fr sp go zs u) (hB : rd_B len fm tt ps pg fr go) (M : rd_Mv len ps pg fr go u ps' pg' fr' sp') : rd_S3 len ps' pg' fr' sp' go := by
  intro c hc sc
  obtain ⟨c2, C⟩ := rd_Mvc M hc sc
  obtain ⟨_, _, _, u0, u1⟩ := hU c hc c2
  have bL := ((hB c hc).1 c2).2
  have z : rd_D 0 = 0 := rfl
  rcases C with ⟨cL, ce, cg, cf, cs⟩ | ⟨cL, cq, c1, ce, cg, cf, cs⟩
  · rw [ce, cf, cs, cg]
    refine ⟨fun g0 gn => ?_, fun g0 gn => ?_⟩
    · rcases u0 g0 gn with k | k
      · rw [k]; omega
      · omega
    · rcases u1 g0 gn with k | k
      · rw [k]; omega
      · omega
  · rw [ce, cs, cg]
    refine ⟨fun _ gn => ?_, fun g0 => by omega⟩
    rcases u1 c1 gn with k | k
    · omega
    · omega
theorem rd_mG (hB : rd_B len fm tt ps pg fr go) (h1 : rd_S1 ps fr sp zs) (h2 : rd_S2 len ps pg fr sp zs) (hG : rd_G ps pg fr) (hU : rd_U len ps pg fr sp go zs u) (M : rd_Mv len ps pg fr go u ps' pg' fr' sp') : rd_G ps' pg' fr' := by
  intro c a hc ha gc he hf
  obtain ⟨c2, c3, cL, ce, cg, cf, cs⟩ := rd_Mvg M hc gc
  obtain ⟨a2, A⟩ := rd_Mvc M ha (by omega)
  have hca : c ≠ a := by intro z; subst z; omega
  rw [cg] at gc
  rcases A with ⟨aL, ae, ag, af, as⟩ | ⟨aL, _, ag, ae, _, af, as⟩
  · have e1 : ps a = ps c := by rw [← ce, ← ae, he]
    rw [ag, cg]
    rcases Nat.lt_or_gt_of_ne (h1 c a hc ha hca c2 e1).1 with k | k
    · exact hG c a hc ha gc e1 k
    · have := (rd_m1 h1 hU ha hc a2 e1.symm k).1
      omega
  · have e1 : ps c = pg a := by rw [← ce, ← ae, he]
    have := (rd_m2 hB h2 hU ha hc ag e1).1
    omega
theorem rd_mH (hH : rd_H tt ps pg) (M : rd_Mv len ps pg fr go u ps' pg' fr' sp') : rd_H tt ps' pg' := by
  intro c d hc hd gc gd ht
  obtain ⟨_, _, _, ce, cg, _, _⟩ := rd_Mvg M hc gc
  obtain ⟨_, _, _, de, dg, _, _⟩ := rd_Mvg M hd gd
  rw [ce, de] at ht
  rw [cg] at gc
  rw [dg] at gd
  rw [ce, de, cg, dg]
  exact hH c d hc hd gc gd ht
/-- an edge is longer than a car goes in a step -/
theorem rd_mB (hB : rd_B len fm tt ps pg fr go) (hl : ∀ c, c < 32 → 0 < pg c → 20 ≤ len (rd_q (pg c))) (hu : ∀ c, c < 32 → 0 < ps c → u c ≤ 12) (M : rd_Mv len ps pg fr go u ps' pg' fr' sp') : rd_B len fm tt ps' pg' fr' go := by
  intro c hc
  refine ⟨fun h => ?_, fun h => ?_⟩
  · obtain ⟨c2, C⟩ := rd_Mvc M hc h
    have b := (hB c hc).1 c2
    rcases C with ⟨cL, ce, cg, cf, cs⟩ | ⟨cL, cq, c1, ce, cg, cf, cs⟩
    · rw [ce, cf]; omega
    · rw [ce]
      have := hl c hc c1
      have := hu c hc c2
      omega
  · obtain ⟨_, c3, _, ce, cg, cf, _⟩ := rd_Mvg M hc h
    rw [ce, cg]
    rw [cg] at h
    exact (hB c hc).2 h
theorem rd_mAll (h : rd_Safe len fm tt ps pg fr sp go zs) (hl : ∀ c, c < 32 → 0 < pg c → 20 ≤ len (rd_q (pg c))) (hu : ∀ c, c < 32 → 0 < ps c → u c ≤ 12) (hU : rd_U len ps pg fr sp go zs u) (M : rd_Mv len ps pg fr go u ps' pg' fr' sp') : rd_Safe len fm tt ps' pg' fr' sp' go zs := by
  obtain ⟨h1, h2, h3, hG, hH, hB⟩ := h
  exact ⟨rd_mS1 hB h1 h2 hH hU M, rd_mS2 hB h1 h2 hH hU M, rd_mS3 hU hB M, rd_mG hB h1 h2 hG hU M, rd_mH hH M, rd_mB hB hl hu M⟩
end
