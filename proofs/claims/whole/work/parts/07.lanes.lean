/-! LANES: the one that stands foremost against the positions one by one -/
def rd_fo (st ed fr ps : Nat → Nat) (dn : Nat → Bool) (e : Nat) : Nat → Nat
  | 0 => 0
  | i + 1 => if st i = 2 ∧ ed i = e ∧ dn i = false ∧ (rd_fo st ed fr ps dn e i = 0 ∨ fr (rd_fo st ed fr ps dn e i - 1) < fr i ∨ (fr i = fr (rd_fo st ed fr ps dn e i - 1) ∧ ps i < ps (rd_fo st ed fr ps dn e i - 1))) then i + 1 else rd_fo st ed fr ps dn e i
def rd_bc (p : Nat → Bool) : Nat → Nat
  | 0 => 0
  | i + 1 => rd_bc p i + (if p i = true then 1 else 0)
theorem rd_bcL (p : Nat → Bool) : ∀ i, rd_bc p i ≤ i
  | 0 => Nat.le_refl _
  | i + 1 => by
    have := rd_bcL p i
    simp only [rd_bc]
    split <;> omega
theorem rd_bcE {p q : Nat → Bool} : ∀ {i : Nat}, (∀ a, a < i → p a = q a) → rd_bc p i = rd_bc q i
  | 0, _ => rfl
  | i + 1, h => by
    have ih := rd_bcE (p := p) (q := q) (i := i) (fun a ha => h a (by omega))
    simp only [rd_bc]
    rw [ih, h i (by omega)]
theorem rd_bcD {p q : Nat → Bool} {c : Nat} (hp : p c = true) (hq : q c = false) : ∀ {i : Nat}, c < i → (∀ a, a < i → a ≠ c → p a = q a) → rd_bc q i + 1 = rd_bc p i
  | 0, h, _ => by omega
  | i + 1, h, k => by
    simp only [rd_bc]
    rcases Nat.decEq c i with z | z
    · have ih := rd_bcD hp hq (i := i) (by omega) (fun a ha => k a (by omega))
      rw [k i (by omega) (fun y => z y.symm)]
      omega
    · subst z
      have ih : rd_bc p c = rd_bc q c := rd_bcE (fun a ha => k a (by omega) (by omega))
      rw [if_pos hp, if_neg (by rw [hq]; decide), ih]
section
variable {st ed fr ps la ch la' ch' sp zs : Nat → Nat} {dn dn' : Nat → Bool} {e N f l : Nat}
theorem rd_foS : ∀ i, (rd_fo st ed fr ps dn e i = 0 ∧ ∀ a, a < i → st a = 2 → ed a = e → dn a = true) ∨
    (∃ a, rd_fo st ed fr ps dn e i = a + 1 ∧ a < i ∧ st a = 2 ∧ ed a = e ∧ dn a = false ∧ ∀ b, b < i → st b = 2 → ed b = e → dn b = false → fr b < fr a ∨ (fr b = fr a ∧ ps a ≤ ps b))
  | 0 => Or.inl ⟨rfl, fun a h => absurd h (Nat.not_lt_zero a)⟩
  | i + 1 => by
    have ih := rd_foS i
    simp only [rd_fo]
    by_cases h : st i = 2 ∧ ed i = e ∧ dn i = false ∧ (rd_fo st ed fr ps dn e i = 0 ∨ fr (rd_fo st ed fr ps dn e i - 1) < fr i ∨ (fr i = fr (rd_fo st ed fr ps dn e i - 1) ∧ ps i < ps (rd_fo st ed fr ps dn e i - 1)))
    · rw [if_pos h]
      obtain ⟨h1, h2, h3, h4⟩ := h
      refine Or.inr ⟨i, rfl, by omega, h1, h2, h3, fun b hb b1 b2 b3 => ?_⟩
      rcases Nat.decEq b i with q | q
      · rcases ih with ⟨k1, k2⟩ | ⟨a, k1, k2, k3, k4, k5, k6⟩
        · have := k2 b (by omega) b1 b2
          rw [this] at b3; exact absurd b3 (by decide)
        · have := k6 b (by omega) b1 b2 b3
          rw [k1] at h4
          have e1 : a + 1 - 1 = a := by omega
          rw [e1] at h4
          rcases h4 with h4 | h4 | h4 <;> omega
      · subst q; exact Or.inr ⟨rfl, Nat.le_refl _⟩
    · rw [if_neg h]
      rcases ih with ⟨k1, k2⟩ | ⟨a, k1, k2, k3, k4, k5, k6⟩
      · refine Or.inl ⟨k1, fun a ha a1 a2 => ?_⟩
        rcases Nat.decEq a i with q | q
        · exact k2 a (by omega) a1 a2
        · subst q
          rcases z : dn a with _ | _
          · exact absurd ⟨a1, a2, z, Or.inl k1⟩ h
          · rfl
      · refine Or.inr ⟨a, k1, by omega, k3, k4, k5, fun b hb b1 b2 b3 => ?_⟩
        rcases Nat.decEq b i with q | q
        · exact k6 b (by omega) b1 b2 b3
        · subst q
          rcases Nat.lt_trichotomy (fr b) (fr a) with z | z | z
          · exact Or.inl z
          · rcases Nat.lt_or_ge (ps b) (ps a) with w | w
            · exact absurd ⟨b1, b2, b3, Or.inr (Or.inr (by rw [k1]; exact ⟨z, w⟩))⟩ h
            · exact Or.inr ⟨z, w⟩
          · exact absurd ⟨b1, b2, b3, Or.inr (Or.inl (by rw [k1]; exact z))⟩ h
theorem rd_foP {i : Nat} (h : st i = 2 ∧ ed i = e ∧ dn i = false ∧ (rd_fo st ed fr ps dn e i = 0 ∨ fr (rd_fo st ed fr ps dn e i - 1) < fr i ∨ (fr i = fr (rd_fo st ed fr ps dn e i - 1) ∧ ps i < ps (rd_fo st ed fr ps dn e i - 1)))) : rd_fo st ed fr ps dn e (i + 1) = i + 1 := if_pos h
theorem rd_foQ {i : Nat} (h : ¬ (st i = 2 ∧ ed i = e ∧ dn i = false ∧ (rd_fo st ed fr ps dn e i = 0 ∨ fr (rd_fo st ed fr ps dn e i - 1) < fr i ∨ (fr i = fr (rd_fo st ed fr ps dn e i - 1) ∧ ps i < ps (rd_fo st ed fr ps dn e i - 1))))) : rd_fo st ed fr ps dn e (i + 1) = rd_fo st ed fr ps dn e i := if_neg h
theorem rd_foL (i : Nat) : rd_fo st ed fr ps dn e i ≤ i := by
  rcases rd_foS (st := st) (ed := ed) (fr := fr) (ps := ps) (dn := dn) (e := e) i with ⟨k1, _⟩ | ⟨a, k1, k2, _⟩ <;> omega
/-- Y is about to look at lane l of position f; dn are those that X has done -/
def rd_LI (N e f l : Nat) (dn : Nat → Bool) (st ed fr la ch : Nat → Nat) : Prop := ∀ c, c < 32 → st c = 2 → ed c = e →
  (dn c = true → f < fr c ∨ (l = 1 ∧ fr c = f)) ∧ (dn c = false → fr c < f ∨ (fr c = f ∧ l ≤ la c)) ∧ (dn c = true → fr c = f → la c = 1 → ch c = N + 1)
theorem rd_LI0 (h : rd_LI N e f 0 dn st ed fr la ch) (ha : ∀ d, d < 32 → st d = 2 → ed d = e → (dn' d = true ↔ dn d = true ∨ (fr d = f ∧ la d = 0))) (hb : ∀ d, d < 32 → st d = 2 → ed d = e → (la' d = la d ∧ ch' d = ch d) ∨ (dn' d = true ∧ fr d = f ∧ ch' d = N + 1)) : rd_LI N e f 1 dn' st ed fr la' ch' := by
  intro c hc c1 c2
  obtain ⟨h1, h2, h3⟩ := h c hc c1 c2
  have a := ha c hc c1 c2
  have b := hb c hc c1 c2
  refine ⟨fun z => ?_, fun z => ?_, fun z w y => ?_⟩
  · rcases a.mp z with q | q
    · rcases h1 q with p | p <;> omega
    · exact Or.inr ⟨rfl, q.1⟩
  · have n1 : ¬ (dn c = true ∨ (fr c = f ∧ la c = 0)) := by intro q; rw [a.mpr q] at z; exact absurd z (by decide)
    have n2 : dn c = false := by
      rcases q : dn c with _ | _
      · rfl
      · exact absurd (Or.inl q) n1
    have n3 : la' c = la c := by
      rcases b with q | q
      · exact q.1
      · rw [q.1] at z; exact absurd z (by decide)
    rw [n3]
    rcases h2 n2 with q | q
    · exact Or.inl q
    · refine Or.inr ⟨q.1, ?_⟩
      rcases Nat.eq_zero_or_pos (la c) with p | p
      · exact absurd (Or.inr ⟨q.1, p⟩) n1
      · exact p
  · rcases b with q | q
    · rcases a.mp z with p | p
      · rcases h1 p with r | r <;> omega
      · rw [q.1] at y; omega
    · exact q.2.2
theorem rd_LI1 (h : rd_LI N e (f + 1) 1 dn st ed fr la ch) (hl : ∀ d, d < 32 → st d = 2 → ed d = e → la d ≤ 1) (ha : ∀ d, d < 32 → st d = 2 → ed d = e → (dn' d = true ↔ dn d = true ∨ (fr d = f + 1 ∧ la d = 1))) : rd_LI N e f 0 dn' st ed fr la' ch' := by
  intro c hc c1 c2
  obtain ⟨h1, h2, h3⟩ := h c hc c1 c2
  have a := ha c hc c1 c2
  have b := hl c hc c1 c2
  refine ⟨fun z => ?_, fun z => ?_, fun z w y => ?_⟩
  · rcases a.mp z with q | q
    · rcases h1 q with p | p <;> omega
    · omega
  · have n1 : ¬ (dn c = true ∨ (fr c = f + 1 ∧ la c = 1)) := by intro q; rw [a.mpr q] at z; exact absurd z (by decide)
    have n2 : dn c = false := by
      rcases q : dn c with _ | _
      · rfl
      · exact absurd (Or.inl q) n1
    rcases h2 n2 with q | q
    · omega
    · exact absurd (Or.inr ⟨q.1, by omega⟩) n1
  · rcases a.mp z with q | q
    · rcases h1 q with p | p <;> omega
    · omega
/-- the one at this place is X's foremost -/
theorem rd_LIf (h : rd_LI N e f l dn st ed fr la ch) (h1 : rd_S1 ps fr sp zs) (hp : ∀ d, d < 32 → st d = 2 → ed d = e → ps d = 2 * e + la d + 1) {c : Nat} (hc : c < 32) (c1 : st c = 2) (c2 : ed c = e) (c3 : fr c = f) (c4 : la c = l) (c5 : dn c = false) : rd_fo st ed fr ps dn e 32 = c + 1 := by
  rcases rd_foS (st := st) (ed := ed) (fr := fr) (ps := ps) (dn := dn) (e := e) 32 with ⟨k1, k2⟩ | ⟨a, k1, k2, k3, k4, k5, k6⟩
  · have := k2 c hc c1 c2
    rw [this] at c5; exact absurd c5 (by decide)
  · have x := k6 c hc c1 c2 c5
    have y := (h a k2 k3 k4).2.1 k5
    have p1 := hp c hc c1 c2
    have p2 := hp a k2 k3 k4
    rcases Nat.decEq a c with q | q
    · exfalso
      have := (h1 a c k2 hc q (by omega) (by omega)).1
      omega
    · rw [k1, q]
theorem rd_LIz (h : rd_LI N e 0 0 dn st ed fr la ch) (hf : ∀ d, d < 32 → st d = 2 → ed d = e → 1 ≤ fr d) : rd_fo st ed fr ps dn e 32 = 0 := by
  rcases rd_foS (st := st) (ed := ed) (fr := fr) (ps := ps) (dn := dn) (e := e) 32 with ⟨k1, _⟩ | ⟨a, k1, k2, k3, k4, k5, k6⟩
  · exact k1
  · have := (h a k2 k3 k4).2.1 k5
    have := hf a k2 k3 k4
    omega
end
