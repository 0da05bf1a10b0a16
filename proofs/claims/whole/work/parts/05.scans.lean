/-! what the scans over the cars find -/
def rd_nr (ps fr : Nat → Nat) (s p : Nat) : Nat → Nat
  | 0 => 0
  | i + 1 => if ps i = s ∧ p < fr i ∧ (rd_nr ps fr s p i = 0 ∨ fr i < fr (rd_nr ps fr s p i - 1)) then i + 1 else rd_nr ps fr s p i
def rd_nu (ps fr : Nat → Nat) (s p : Nat) : Nat → Nat
  | 0 => 0
  | i + 1 => if ps i = s ∧ fr i ≤ p ∧ (rd_nu ps fr s p i = 0 ∨ fr (rd_nu ps fr s p i - 1) < fr i) then i + 1 else rd_nu ps fr s p i
def rd_fw (st ed tk : Nat → Nat) (e : Nat) : Nat → Nat
  | 0 => 0
  | i + 1 => if st i = 1 ∧ ed i = e ∧ (rd_fw st ed tk e i = 0 ∨ tk i < tk (rd_fw st ed tk e i - 1)) then i + 1 else rd_fw st ed tk e i
/-- how many of lane s stand above p -/
def rd_cb (ps fr : Nat → Nat) (s p : Nat) : Nat → Nat
  | 0 => 0
  | i + 1 => rd_cb ps fr s p i + (if ps i = s ∧ p < fr i then 1 else 0)
section
variable {ps fr st ed tk : Nat → Nat} {s p e : Nat}
theorem rd_nrS : ∀ i, (rd_nr ps fr s p i = 0 ∧ ∀ a, a < i → ps a = s → ¬ p < fr a) ∨ (∃ a, rd_nr ps fr s p i = a + 1 ∧ a < i ∧ ps a = s ∧ p < fr a ∧ ∀ b, b < i → ps b = s → p < fr b → fr a ≤ fr b)
  | 0 => Or.inl ⟨rfl, fun a h => absurd h (Nat.not_lt_zero a)⟩
  | i + 1 => by
    have ih := rd_nrS i
    simp only [rd_nr]
    by_cases h : ps i = s ∧ p < fr i ∧ (rd_nr ps fr s p i = 0 ∨ fr i < fr (rd_nr ps fr s p i - 1))
    · rw [if_pos h]
      obtain ⟨h1, h2, h3⟩ := h
      refine Or.inr ⟨i, rfl, by omega, h1, h2, fun b hb eb fb => ?_⟩
      rcases ih with ⟨k1, k2⟩ | ⟨a, k1, k2, k3, k4, k5⟩
      · rcases Nat.decEq b i with q | q
        · exact absurd fb (k2 b (by omega) eb)
        · subst q; exact Nat.le_refl _
      · have h4 : fr i < fr a := by
          rcases h3 with h3 | h3
          · omega
          · rw [k1] at h3; exact h3
        rcases Nat.decEq b i with q | q
        · have := k5 b (by omega) eb fb; omega
        · subst q; exact Nat.le_refl _
    · rw [if_neg h]
      rcases ih with ⟨k1, k2⟩ | ⟨a, k1, k2, k3, k4, k5⟩
      · refine Or.inl ⟨k1, fun a ha ea fa => ?_⟩
        rcases Nat.decEq a i with q | q
        · exact k2 a (by omega) ea fa
        · subst q; exact h ⟨ea, fa, Or.inl k1⟩
      · refine Or.inr ⟨a, k1, by omega, k3, k4, fun b hb eb fb => ?_⟩
        rcases Nat.decEq b i with q | q
        · exact k5 b (by omega) eb fb
        · subst q
          rcases Nat.lt_or_ge (fr b) (fr a) with z | z
          · exact absurd ⟨eb, fb, Or.inr (by rw [k1]; exact z)⟩ h
          · exact z
theorem rd_nuS : ∀ i, (rd_nu ps fr s p i = 0 ∧ ∀ a, a < i → ps a = s → ¬ fr a ≤ p) ∨ (∃ a, rd_nu ps fr s p i = a + 1 ∧ a < i ∧ ps a = s ∧ fr a ≤ p ∧ ∀ b, b < i → ps b = s → fr b ≤ p → fr b ≤ fr a)
  | 0 => Or.inl ⟨rfl, fun a h => absurd h (Nat.not_lt_zero a)⟩
  | i + 1 => by
    have ih := rd_nuS i
    simp only [rd_nu]
    by_cases h : ps i = s ∧ fr i ≤ p ∧ (rd_nu ps fr s p i = 0 ∨ fr (rd_nu ps fr s p i - 1) < fr i)
    · rw [if_pos h]
      obtain ⟨h1, h2, h3⟩ := h
      refine Or.inr ⟨i, rfl, by omega, h1, h2, fun b hb eb fb => ?_⟩
      rcases ih with ⟨k1, k2⟩ | ⟨a, k1, k2, k3, k4, k5⟩
      · rcases Nat.decEq b i with q | q
        · exact absurd fb (k2 b (by omega) eb)
        · subst q; exact Nat.le_refl _
      · have h4 : fr a < fr i := by
          rcases h3 with h3 | h3
          · omega
          · rw [k1] at h3; exact h3
        rcases Nat.decEq b i with q | q
        · have := k5 b (by omega) eb fb; omega
        · subst q; exact Nat.le_refl _
    · rw [if_neg h]
      rcases ih with ⟨k1, k2⟩ | ⟨a, k1, k2, k3, k4, k5⟩
      · refine Or.inl ⟨k1, fun a ha ea fa => ?_⟩
        rcases Nat.decEq a i with q | q
        · exact k2 a (by omega) ea fa
        · subst q; exact h ⟨ea, fa, Or.inl k1⟩
      · refine Or.inr ⟨a, k1, by omega, k3, k4, fun b hb eb fb => ?_⟩
        rcases Nat.decEq b i with q | q
        · exact k5 b (by omega) eb fb
        · subst q
          rcases Nat.lt_or_ge (fr a) (fr b) with z | z
          · exact absurd ⟨eb, fb, Or.inr (by rw [k1]; exact z)⟩ h
          · exact z
theorem rd_nrP {i : Nat} (h : ps i = s ∧ p < fr i ∧ (rd_nr ps fr s p i = 0 ∨ fr i < fr (rd_nr ps fr s p i - 1))) : rd_nr ps fr s p (i + 1) = i + 1 := if_pos h
theorem rd_nrQ {i : Nat} (h : ¬ (ps i = s ∧ p < fr i ∧ (rd_nr ps fr s p i = 0 ∨ fr i < fr (rd_nr ps fr s p i - 1)))) : rd_nr ps fr s p (i + 1) = rd_nr ps fr s p i := if_neg h
theorem rd_nuP {i : Nat} (h : ps i = s ∧ fr i ≤ p ∧ (rd_nu ps fr s p i = 0 ∨ fr (rd_nu ps fr s p i - 1) < fr i)) : rd_nu ps fr s p (i + 1) = i + 1 := if_pos h
theorem rd_nuQ {i : Nat} (h : ¬ (ps i = s ∧ fr i ≤ p ∧ (rd_nu ps fr s p i = 0 ∨ fr (rd_nu ps fr s p i - 1) < fr i))) : rd_nu ps fr s p (i + 1) = rd_nu ps fr s p i := if_neg h
theorem rd_fwP {i : Nat} (h : st i = 1 ∧ ed i = e ∧ (rd_fw st ed tk e i = 0 ∨ tk i < tk (rd_fw st ed tk e i - 1))) : rd_fw st ed tk e (i + 1) = i + 1 := if_pos h
theorem rd_fwQ {i : Nat} (h : ¬ (st i = 1 ∧ ed i = e ∧ (rd_fw st ed tk e i = 0 ∨ tk i < tk (rd_fw st ed tk e i - 1)))) : rd_fw st ed tk e (i + 1) = rd_fw st ed tk e i := if_neg h
theorem rd_cbP {i : Nat} (h : ps i = s ∧ p < fr i) : rd_cb ps fr s p (i + 1) = rd_cb ps fr s p i + 1 := by simp only [rd_cb]; rw [if_pos h]
theorem rd_cbQ {i : Nat} (h : ¬ (ps i = s ∧ p < fr i)) : rd_cb ps fr s p (i + 1) = rd_cb ps fr s p i := by simp only [rd_cb]; rw [if_neg h]; rfl
theorem rd_nrN : rd_Nr ps fr s p (rd_nr ps fr s p 32) := rd_nrS 32
theorem rd_nuN : rd_Nu ps fr s p (rd_nu ps fr s p 32) := rd_nuS 32
theorem rd_nrL (i : Nat) : rd_nr ps fr s p i ≤ i := by
  rcases rd_nrS (ps := ps) (fr := fr) (s := s) (p := p) i with ⟨k1, _⟩ | ⟨a, k1, k2, _⟩ <;> omega
theorem rd_nuL (i : Nat) : rd_nu ps fr s p i ≤ i := by
  rcases rd_nuS (ps := ps) (fr := fr) (s := s) (p := p) i with ⟨k1, _⟩ | ⟨a, k1, k2, _⟩ <;> omega
theorem rd_fwS : ∀ i, rd_fw st ed tk e i = 0 ∨ (∃ a, rd_fw st ed tk e i = a + 1 ∧ a < i ∧ st a = 1 ∧ ed a = e)
  | 0 => Or.inl rfl
  | i + 1 => by
    have ih := rd_fwS i
    simp only [rd_fw]
    by_cases h : st i = 1 ∧ ed i = e ∧ (rd_fw st ed tk e i = 0 ∨ tk i < tk (rd_fw st ed tk e i - 1))
    · rw [if_pos h]
      exact Or.inr ⟨i, rfl, by omega, h.1, h.2.1⟩
    · rw [if_neg h]
      rcases ih with k | ⟨a, k1, k2, k3, k4⟩
      · exact Or.inl k
      · exact Or.inr ⟨a, k1, by omega, k3, k4⟩
theorem rd_fwL (i : Nat) : rd_fw st ed tk e i ≤ i := by
  rcases rd_fwS (st := st) (ed := ed) (tk := tk) (e := e) i with k1 | ⟨a, k1, k2, _⟩ <;> omega
theorem rd_cbL : ∀ i, rd_cb ps fr s p i ≤ i
  | 0 => Nat.le_refl _
  | i + 1 => by
    have := rd_cbL i
    simp only [rd_cb]
    split <;> omega
theorem rd_cbE {p' : Nat} : ∀ {i : Nat}, (∀ a, a < i → ps a = s → (p < fr a ↔ p' < fr a)) → rd_cb ps fr s p i = rd_cb ps fr s p' i
  | 0, _ => rfl
  | i + 1, h => by
    have ih := rd_cbE (p' := p') (i := i) (fun a ha => h a (by omega))
    have hi := h i (by omega)
    simp only [rd_cb]
    by_cases q : ps i = s
    · have := hi q
      by_cases z : p < fr i
      · rw [if_pos ⟨q, z⟩, if_pos ⟨q, this.mp z⟩, ih]
      · rw [if_neg (fun w => z w.2), if_neg (fun w => z (this.mpr w.2)), ih]
    · rw [if_neg (fun w => q w.1), if_neg (fun w => q w.1), ih]
theorem rd_cb0 : ∀ {i : Nat}, (∀ a, a < i → ps a = s → ¬ p < fr a) → rd_cb ps fr s p i = 0
  | 0, _ => rfl
  | i + 1, h => by
    have ih := rd_cb0 (i := i) (fun a ha => h a (by omega))
    simp only [rd_cb]
    rw [if_neg (fun w => h i (by omega) w.1 w.2), ih]
/-- one more when the bound falls below just one of them -/
theorem rd_cb1 {p' a : Nat} (ea : ps a = s) (h1 : ¬ p < fr a) (h2 : p' < fr a) : ∀ {i : Nat}, a < i → (∀ b, b < i → b ≠ a → ps b = s → (p < fr b ↔ p' < fr b)) → rd_cb ps fr s p' i = rd_cb ps fr s p i + 1
  | 0, h, _ => by omega
  | i + 1, h, hb => by
    simp only [rd_cb]
    rcases Nat.decEq a i with q | q
    · have ih := rd_cb1 ea h1 h2 (i := i) (by omega) (fun b hb' => hb b (by omega))
      by_cases w : ps i = s
      · have := hb i (by omega) (fun z => q z.symm) w
        by_cases z : p < fr i
        · rw [if_pos ⟨w, this.mp z⟩, if_pos ⟨w, z⟩]; omega
        · rw [if_neg (fun y => z (this.mpr y.2)), if_neg (fun y => z y.2)]; omega
      · rw [if_neg (fun y => w y.1), if_neg (fun y => w y.1)]; omega
    · subst q
      have ih : rd_cb ps fr s p a = rd_cb ps fr s p' a := rd_cbE (fun b hb' eb => hb b (by omega) (by omega) eb)
      rw [if_pos ⟨ea, h2⟩, if_neg (fun y => h1 y.2)]; omega
theorem rd_cbM {p' : Nat} (h : p' ≤ p) : ∀ i, rd_cb ps fr s p i ≤ rd_cb ps fr s p' i
  | 0 => Nat.le_refl _
  | i + 1 => by
    have ih := rd_cbM h i
    simp only [rd_cb]
    by_cases z : ps i = s ∧ p < fr i
    · rw [if_pos z, if_pos ⟨z.1, by omega⟩]; omega
    · rw [if_neg z]; omega
theorem rd_cbS {p' a : Nat} (h : p' ≤ p) (ea : ps a = s) (h1 : ¬ p < fr a) (h2 : p' < fr a) : ∀ {i : Nat}, a < i → rd_cb ps fr s p i < rd_cb ps fr s p' i
  | 0, k => by omega
  | i + 1, k => by
    simp only [rd_cb]
    rcases Nat.decEq a i with q | q
    · have ih := rd_cbS h ea h1 h2 (i := i) (by omega)
      by_cases z : ps i = s ∧ p < fr i
      · rw [if_pos z, if_pos ⟨z.1, by omega⟩]; omega
      · rw [if_neg z]; omega
    · subst q
      have ih := rd_cbM (ps := ps) (fr := fr) (s := s) h a
      rw [if_neg (fun y => h1 y.2), if_pos ⟨ea, h2⟩]; omega
end
/-! the k-th car of a lane -/
def rd_Kth (ps fr : Nat → Nat) (s k n : Nat) : Prop := (n = 0 ∧ ∀ c, c < 32 → ps c = s → rd_cb ps fr s (fr c) 32 ≠ k) ∨ (∃ c, n = c + 1 ∧ c < 32 ∧ ps c = s ∧ rd_cb ps fr s (fr c) 32 = k)
section
variable {ps fr sp zs : Nat → Nat} {s k : Nat}
theorem rd_KthU (h1 : rd_S1 ps fr sp zs) (s0 : 0 < s) {n n' : Nat} (h : rd_Kth ps fr s k n) (h' : rd_Kth ps fr s k n') : n = n' := by
  rcases h with ⟨a1, a2⟩ | ⟨c, a1, a2, a3, a4⟩
  · rcases h' with ⟨b1, b2⟩ | ⟨d, b1, b2, b3, b4⟩
    · omega
    · exact absurd b4 (a2 d b2 b3)
  · rcases h' with ⟨b1, b2⟩ | ⟨d, b1, b2, b3, b4⟩
    · exact absurd a4 (b2 c a2 a3)
    · rcases Nat.decEq c d with q | q
      · exfalso
        have e := (h1 c d a2 b2 q (by omega) (by omega)).1
        rcases Nat.lt_or_gt_of_ne e with z | z
        · have := rd_cbS (ps := ps) (fr := fr) (s := s) (Nat.le_of_lt z) b3 (Nat.lt_irrefl _) z b2
          omega
        · have := rd_cbS (ps := ps) (fr := fr) (s := s) (Nat.le_of_lt z) a3 (Nat.lt_irrefl _) z a2
          omega
      · omega
/-- Y goes from one to the next below it -/
theorem rd_KthS (h1 : rd_S1 ps fr sp zs) (s0 : 0 < s) {p i a : Nat} (hi : rd_cb ps fr s p 32 = i) (ha : rd_nu ps fr s p 32 = a + 1) : a < 32 ∧ ps a = s ∧ fr a ≤ p ∧ rd_cb ps fr s (fr a) 32 = i ∧ (1 ≤ fr a → rd_cb ps fr s (fr a - 1) 32 = i + 1) := by
  rcases rd_nuS (ps := ps) (fr := fr) (s := s) (p := p) 32 with ⟨k1, _⟩ | ⟨b, k1, k2, k3, k4, k5⟩
  · omega
  · have e : b = a := by omega
    subst e
    have d : ∀ c, c < 32 → c ≠ b → ps c = s → (p < fr c ↔ fr b < fr c) := by
      intro c hc cb ec
      have e1 := (h1 c b hc k2 cb (by omega) (by omega)).1
      constructor
      · intro z; omega
      · intro z
        rcases Nat.lt_or_ge p (fr c) with w | w
        · exact w
        · have := k5 c hc ec w; omega
    refine ⟨k2, k3, k4, ?_, fun f1 => ?_⟩
    · rw [← hi]
      refine (rd_cbE (fun c hc ec => ?_)).symm
      rcases Nat.decEq c b with q | q
      · exact d c hc q ec
      · subst q; omega
    · rw [← hi]
      refine rd_cb1 k3 (by omega) (by omega) k2 (fun c hc cb ec => ?_)
      have := d c hc cb ec
      have e1 := (h1 c b hc k2 cb (by omega) (by omega)).1
      omega
theorem rd_KthN (s0 : 0 < s) {p i : Nat} (hi : rd_cb ps fr s p 32 = i) (hk : i ≤ k) (ha : rd_nu ps fr s p 32 = 0) : rd_Kth ps fr s k 0 := by
  refine Or.inl ⟨rfl, fun c hc ec z => ?_⟩
  rcases rd_nuS (ps := ps) (fr := fr) (s := s) (p := p) 32 with ⟨_, k2⟩ | ⟨b, k1, _⟩
  · have w := k2 c hc ec
    have := rd_cbS (ps := ps) (fr := fr) (s := s) (p := fr c) (p' := p) (by omega) ec (Nat.lt_irrefl _) (by omega) hc
    omega
  · omega
end
