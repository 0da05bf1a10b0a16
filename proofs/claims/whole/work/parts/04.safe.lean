/-! the nearest on a lane; what keeps the cars safe: grants, changes of lanes, entries, ends -/
/-- n is 0 if none of lane s stands above p, else one more than the one with the least FRONT -/
def rd_Nr (ps fr : Nat → Nat) (s p n : Nat) : Prop :=
  (n = 0 ∧ ∀ a, a < 32 → ps a = s → ¬ p < fr a) ∨ (∃ a, n = a + 1 ∧ a < 32 ∧ ps a = s ∧ p < fr a ∧ ∀ b, b < 32 → ps b = s → p < fr b → fr a ≤ fr b)
/-- n is 0 if none of lane s stands at p or below, else one more than the one with the greatest FRONT -/
def rd_Nu (ps fr : Nat → Nat) (s p n : Nat) : Prop :=
  (n = 0 ∧ ∀ a, a < 32 → ps a = s → ¬ fr a ≤ p) ∨ (∃ a, n = a + 1 ∧ a < 32 ∧ ps a = s ∧ fr a ≤ p ∧ ∀ b, b < 32 → ps b = s → fr b ≤ p → fr b ≤ fr a)
section
variable {len fm tt ps pg fr sp go zs fr' sp' go' zs' : Nat → Nat}
theorem rd_Uc (h : rd_Safe len fm tt ps pg fr sp go zs) {c n u : Nat} (hc : c < 32) (sc : 0 < ps c) (hn : rd_Nr ps fr (ps c) (fr c) n)
    (b1 : ∀ a, n = a + 1 → rd_Bd (fr c) u (fr a) (sp a) (zs a))
    (b2 : n = 0 → 0 < pg c → ∃ n', rd_Nr ps fr (pg c) 0 n' ∧ ∀ b, n' = b + 1 → rd_Bd (fr c) u (fr b + len (rd_q (ps c))) (sp b) (zs b)) :
    (∀ a, a < 32 → ps a = ps c → fr c < fr a → rd_Bd (fr c) u (fr a) (sp a) (zs a)) ∧
    (0 < pg c → ∀ b, b < 32 → ps b = pg c → rd_Bd (fr c) u (fr b + len (rd_q (ps c))) (sp b) (zs b)) := by
  obtain ⟨h1, h2, h3, hG, hH, hB⟩ := h
  refine ⟨fun a ha ea fa => ?_, fun gc b hb eb => ?_⟩
  · rcases hn with ⟨_, k⟩ | ⟨a0, n1, n2, n3, n4, n5⟩
    · exact absurd fa (k a ha ea)
    · rcases Nat.decEq a0 a with q | q
      · have d := h1 a0 a n2 ha q (by omega) (by rw [n3, ea])
        have l1 := n5 a ha ea fa
        exact rd_BdT (b1 a0 n1) (d.2 (by omega))
      · subst q; exact b1 a0 n1
  · rcases hn with ⟨n0, k⟩ | ⟨a0, n1, n2, n3, n4, n5⟩
    · obtain ⟨n', hn', hb'⟩ := b2 n0 gc
      have f1 := ((hB b hb).1 (by omega)).1
      rcases hn' with ⟨_, k'⟩ | ⟨b0, m1, m2, m3, m4, m5⟩
      · exact absurd (by omega) (k' b hb eb)
      · rcases Nat.decEq b0 b with q | q
        · have d := h1 b0 b m2 hb q (by omega) (by rw [m3, eb])
          have l1 := m5 b hb eb (by omega)
          exact rd_BdT (hb' b0 m1) (rd_FoA _ (d.2 (by omega)))
        · subst q; exact hb' b0 m1
    · have g1 := hG c a0 hc n2 gc n3 n4
      have s2 := h2 a0 b n2 hb (by omega) (by rw [g1, eb])
      rw [n3] at s2
      exact rd_BdT (b1 a0 n1) s2
theorem rd_grant (h : rd_Safe len fm tt ps pg fr sp go zs) {c s n : Nat} (hc : c < 32) (sc : 0 < ps c) (g0 : pg c = 0) (s0 : 0 < s)
    (hgo : go c ≠ rd_q (ps c)) (hfm : fm (rd_q s) = tt (rd_q (ps c))) (hq : rd_q s ≠ rd_q (ps c))
    (hn : rd_Nr ps fr (ps c) (fr c) n) (b1 : ∀ a, n = a + 1 → pg a = s)
    (b2 : n = 0 → ∃ n', rd_Nr ps fr s 0 n' ∧ ∀ b, n' = b + 1 → rd_Fo (fr c) (sp c) (fr b + len (rd_q (ps c))) (sp b) (zs b))
    (he : go c ≠ rd_q s → rd_D (sp c) + fr c ≤ len (rd_q (ps c)) + len (rd_q s))
    (hh : ∀ d, d < 32 → 0 < pg d → tt (rd_q (ps d)) = tt (rd_q (ps c)) → ps d = ps c ∧ pg d = s) :
    rd_Safe len fm tt ps (ru_p pg c s) fr sp go zs := by
  obtain ⟨h1, h2, h3, hG, hH, hB⟩ := h
  refine ⟨h1, fun d b hd hb gd eb => ?_, fun d hd sd => ?_, fun d a hd ha gd ea fa => ?_, fun d d' hd hd' gd gd' ht => ?_, fun d hd => ?_⟩
  · rcases Nat.decEq d c with q | q
    · rw [ru_n q] at gd eb
      exact h2 d b hd hb gd eb
    · subst q
      rw [ru_s] at eb
      rcases hn with ⟨n0, k⟩ | ⟨a0, n1, n2, n3, n4, n5⟩
      · obtain ⟨n', hn', hb'⟩ := b2 n0
        have f1 := ((hB b hb).1 (by omega)).1
        rcases hn' with ⟨_, k'⟩ | ⟨b0, m1, m2, m3, m4, m5⟩
        · exact absurd (by omega) (k' b hb eb)
        · rcases Nat.decEq b0 b with q | q
          · have e := h1 b0 b m2 hb q (by omega) (by rw [m3, eb])
            have l1 := m5 b hb eb (by omega)
            exact rd_FoT (hb' b0 m1) (rd_FoA _ (e.2 (by omega)))
          · subst q; exact hb' b0 m1
      · have g1 := b1 a0 n1
        have s2 := h2 a0 b n2 hb (by omega) (by rw [g1, eb])
        rw [n3] at s2
        have hda : d ≠ a0 := by intro z; subst z; omega
        exact rd_FoT ((h1 d a0 hd n2 hda sc n3).2 n4) s2
  · rcases Nat.decEq d c with q | q
    · rw [ru_n q]; exact h3 d hd sd
    · subst q
      rw [ru_s]
      exact ⟨fun z => by omega, fun _ => he⟩
  · rcases Nat.decEq d c with q | q
    · rw [ru_n q] at gd ⊢
      rcases Nat.decEq a c with p | p
      · rw [ru_n p]; exact hG d a hd ha gd ea fa
      · subst p
        have := hG d a hd ha gd ea fa
        omega
    · subst q
      rw [ru_s]
      have had : a ≠ d := by intro z; subst z; omega
      rw [ru_n had]
      rcases hn with ⟨n0, k⟩ | ⟨a0, n1, n2, n3, n4, n5⟩
      · exact absurd fa (k a ha ea)
      · have g1 := b1 a0 n1
        rcases Nat.decEq a0 a with p | p
        · have e := h1 a0 a n2 ha p (by omega) (by rw [n3, ea])
          have l1 := n5 a ha ea fa
          rw [← g1]
          exact hG a0 a n2 ha (by omega) (by rw [n3, ea]) (by omega)
        · subst p; exact g1
  · rcases Nat.decEq d c with q | q
    · rw [ru_n q] at gd ⊢
      rcases Nat.decEq d' c with p | p
      · rw [ru_n p] at gd' ⊢
        exact hH d d' hd hd' gd gd' ht
      · subst p
        rw [ru_s]
        exact hh d hd gd ht
    · subst q
      rw [ru_s]
      rcases Nat.decEq d' d with p | p
      · rw [ru_n p] at gd' ⊢
        obtain ⟨a1, a2⟩ := hh d' hd' gd' ht.symm
        exact ⟨a1.symm, a2.symm⟩
      · subst p
        rw [ru_s]
        exact ⟨rfl, rfl⟩
  · refine ⟨(hB d hd).1, fun z => ?_⟩
    rcases Nat.decEq d c with q | q
    · rw [ru_n q] at z ⊢
      exact (hB d hd).2 z
    · subst q
      rw [ru_s]
      exact ⟨sc, hfm, hgo, hq⟩
theorem rd_change (h : rd_Safe len fm tt ps pg fr sp go zs) {c s n m : Nat} (hc : c < 32) (sc : 0 < ps c) (g0 : pg c = 0) (s0 : 0 < s) (hs : s ≠ ps c) (hq : rd_q s = rd_q (ps c))
    (hn : rd_Nr ps fr s (fr c) n) (b1 : ∀ a, n = a + 1 → rd_Fo (fr c) (sp c) (fr a) (sp a) (zs a))
    (hm : rd_Nu ps fr s (fr c) m) (b2 : ∀ b, m = b + 1 → pg b = 0 ∧ rd_Fo (fr b) (sp b) (fr c) (sp c) (zs c))
    (b3 : m = 0 → ∀ d, d < 32 → pg d ≠ s) : rd_Safe len fm tt (ru_p ps c s) pg fr sp go zs := by
  obtain ⟨h1, h2, h3, hG, hH, hB⟩ := h
  have ahead : ∀ a, a < 32 → ps a = s → fr c < fr a → rd_Fo (fr c) (sp c) (fr a) (sp a) (zs a) := by
    intro a ha ea fa
    rcases hn with ⟨n0, k⟩ | ⟨a0, n1, n2, n3, n4, n5⟩
    · exact absurd fa (k a ha ea)
    · rcases Nat.decEq a0 a with q | q
      · have e := h1 a0 a n2 ha q (by omega) (by rw [n3, ea])
        have l1 := n5 a ha ea fa
        exact rd_FoT (b1 a0 n1) (e.2 (by omega))
      · subst q; exact b1 a0 n1
  have behind : ∀ b, b < 32 → ps b = s → fr b ≤ fr c → rd_Fo (fr b) (sp b) (fr c) (sp c) (zs c) ∧ pg b = 0 := by
    intro b hb eb fb
    rcases hm with ⟨n0, k⟩ | ⟨b0, n1, n2, n3, n4, n5⟩
    · exact absurd fb (k b hb eb)
    · obtain ⟨p0, f0⟩ := b2 b0 n1
      rcases Nat.decEq b b0 with q | q
      · have e := h1 b b0 hb n2 q (by omega) (by rw [n3, eb])
        have l1 := n5 b hb eb fb
        have l2 : fr b < fr b0 := by have := e.1; omega
        refine ⟨rd_FoT (e.2 l2) f0, ?_⟩
        rcases Nat.eq_zero_or_pos (pg b) with z | z
        · exact z
        · have := hG b b0 hb n2 z (by rw [n3, eb]) l2
          omega
      · subst q; exact ⟨f0, p0⟩
  have granted : ∀ d, d < 32 → pg d = s → rd_Fo (fr d) (sp d) (fr c + len (rd_q (ps d))) (sp c) (zs c) := by
    intro d hd ed
    rcases hm with ⟨n0, k⟩ | ⟨b0, n1, n2, n3, n4, n5⟩
    · exact absurd ed (b3 n0 d hd)
    · obtain ⟨p0, f0⟩ := b2 b0 n1
      exact rd_FoT (h2 d b0 hd n2 (by omega) (by rw [n3, ed])) (rd_FoA _ f0)
  refine ⟨fun d a hd ha hda sd ea => ?_, fun d b hd hb gd eb => ?_, fun d hd sd => ?_, fun d a hd ha gd ea fa => ?_, fun d d' hd hd' gd gd' ht => ?_, fun d hd => ?_⟩
  · rcases Nat.decEq d c with q | q
    · rw [ru_n q] at sd ea
      rcases Nat.decEq a c with p | p
      · rw [ru_n p] at ea
        exact h1 d a hd ha hda sd ea
      · subst p
        rw [ru_s] at ea
        rcases Nat.lt_or_ge (fr a) (fr d) with k | k
        · exact ⟨by omega, fun z => by omega⟩
        · have f := (behind d hd ea.symm k).1
          exact ⟨by have := f.1; omega, fun _ => f⟩
    · subst q
      have p : a ≠ d := fun z => hda z.symm
      rw [ru_s, ru_n p] at ea
      rcases Nat.lt_or_ge (fr d) (fr a) with k | k
      · exact ⟨by omega, fun _ => ahead a ha ea k⟩
      · have f := (behind a ha ea k).1
        exact ⟨by have := f.1; omega, fun z => by omega⟩
  · have q : d ≠ c := by intro z; subst z; omega
    rw [ru_n q]
    rcases Nat.decEq b c with p | p
    · rw [ru_n p] at eb
      exact h2 d b hd hb gd eb
    · subst p
      rw [ru_s] at eb
      exact granted d hd eb.symm
  · rcases Nat.decEq d c with q | q
    · rw [ru_n q] at sd ⊢
      exact h3 d hd sd
    · subst q
      rw [ru_s, hq]
      exact h3 d hd sc
  · have q : d ≠ c := by intro z; subst z; omega
    rw [ru_n q] at ea
    rcases Nat.decEq a c with p | p
    · rw [ru_n p] at ea
      exact hG d a hd ha gd ea fa
    · subst p
      rw [ru_s] at ea
      have := (behind d hd ea.symm (by omega)).2
      omega
  · have q : d ≠ c := by intro z; subst z; omega
    have p : d' ≠ c := by intro z; subst z; omega
    rw [ru_n q, ru_n p] at ht
    rw [ru_n q, ru_n p]
    exact hH d d' hd hd' gd gd' ht
  · rcases Nat.decEq d c with q | q
    · rw [ru_n q]; exact hB d hd
    · subst q
      rw [ru_s, hq]
      exact ⟨fun _ => (hB d hd).1 sc, fun z => by omega⟩
theorem rd_enter (h : rd_Safe len fm tt ps pg fr sp go zs) {c s n : Nat} (hc : c < 32) (c0 : ps c = 0) (s0 : 0 < s) (hg : ∀ d, d < 32 → pg d ≠ s) (z1 : 1 ≤ zs c) (zl : zs c ≤ len (rd_q s))
    (hn : rd_Nr ps fr s 0 n) (b1 : ∀ a, n = a + 1 → zs c + zs a + 1 ≤ fr a) : rd_Safe len fm tt (ru_p ps c s) pg (ru_p fr c (zs c)) (ru_p sp c 0) go zs := by
  obtain ⟨h1, h2, h3, hG, hH, hB⟩ := h
  have p0 : pg c = 0 := by
    rcases Nat.eq_zero_or_pos (pg c) with z | z
    · exact z
    · have := ((hB c hc).2 z).1; omega
  have ahead : ∀ a, a < 32 → ps a = s → rd_Fo (zs c) 0 (fr a) (sp a) (zs a) := by
    intro a ha ea
    have f1 := ((hB a ha).1 (by omega)).1
    have key : zs c + zs a + 1 ≤ fr a := by
      rcases hn with ⟨n0, k⟩ | ⟨a0, n1, n2, n3, n4, n5⟩
      · exact absurd (by omega) (k a ha ea)
      · rcases Nat.decEq a0 a with q | q
        · have e := h1 a0 a n2 ha q (by omega) (by rw [n3, ea])
          have l1 := n5 a ha ea (by omega)
          have f := (e.2 (by omega)).1
          have := b1 a0 n1
          omega
        · subst q; exact b1 a0 n1
    unfold rd_Fo
    rw [rd_D0]
    omega
  refine ⟨fun d a hd ha hda sd ea => ?_, fun d b hd hb gd eb => ?_, fun d hd sd => ?_, fun d a hd ha gd ea fa => ?_, fun d d' hd hd' gd gd' ht => ?_, fun d hd => ?_⟩
  · rcases Nat.decEq d c with q | q
    · rw [ru_n q] at sd ea
      rw [ru_n q, ru_n q]
      rcases Nat.decEq a c with p | p
      · rw [ru_n p] at ea
        rw [ru_n p, ru_n p]
        exact h1 d a hd ha hda sd ea
      · subst p
        rw [ru_s] at ea
        rw [ru_s, ru_s]
        have f := (ahead d hd ea.symm).1
        exact ⟨by omega, fun z => by omega⟩
    · subst q
      have p : a ≠ d := fun z => hda z.symm
      rw [ru_s, ru_n p] at ea
      rw [ru_s, ru_s, ru_n p, ru_n p]
      have f := ahead a ha ea
      exact ⟨by have := f.1; omega, fun _ => f⟩
  · have q : d ≠ c := by intro z; subst z; omega
    rw [ru_n q, ru_n q, ru_n q]
    rcases Nat.decEq b c with p | p
    · rw [ru_n p] at eb
      rw [ru_n p, ru_n p]
      exact h2 d b hd hb gd eb
    · subst p
      rw [ru_s] at eb
      exact absurd eb.symm (hg d hd)
  · rcases Nat.decEq d c with q | q
    · rw [ru_n q] at sd ⊢
      rw [ru_n q, ru_n q]
      exact h3 d hd sd
    · subst q
      rw [ru_s, ru_s, ru_s, rd_D0]
      exact ⟨fun _ _ => by omega, fun z => by omega⟩
  · have q : d ≠ c := by intro z; subst z; omega
    rw [ru_n q] at ea fa
    rcases Nat.decEq a c with p | p
    · rw [ru_n p] at ea fa
      exact hG d a hd ha gd ea fa
    · subst p
      rw [ru_s] at ea fa
      have := (ahead d hd ea.symm).1
      omega
  · have q : d ≠ c := by intro z; subst z; omega
    have p : d' ≠ c := by intro z; subst z; omega
    rw [ru_n q, ru_n p] at ht
    rw [ru_n q, ru_n p]
    exact hH d d' hd hd' gd gd' ht
  · rcases Nat.decEq d c with q | q
    · rw [ru_n q, ru_n q]; exact hB d hd
    · subst q
      rw [ru_s, ru_s]
      exact ⟨fun _ => ⟨z1, zl⟩, fun z => by omega⟩
theorem rd_remove (h : rd_Safe len fm tt ps pg fr sp go zs) (c : Nat) : rd_Safe len fm tt (ru_p ps c 0) (ru_p pg c 0) fr sp go zs := by
  obtain ⟨h1, h2, h3, hG, hH, hB⟩ := h
  have np : ∀ {d : Nat}, 0 < ru_p ps c 0 d → d ≠ c := by intro d hd z; subst z; rw [ru_s] at hd; omega
  have ng : ∀ {d : Nat}, 0 < ru_p pg c 0 d → d ≠ c := by intro d hd z; subst z; rw [ru_s] at hd; omega
  refine ⟨fun d a hd ha hda sd ea => ?_, fun d b hd hb gd eb => ?_, fun d hd sd => ?_, fun d a hd ha gd ea fa => ?_, fun d d' hd hd' gd gd' ht => ?_, fun d hd => ⟨fun sd => ?_, fun gd => ?_⟩⟩
  · have q := np sd
    have p : a ≠ c := np (by omega)
    rw [ru_n q] at sd ea
    rw [ru_n p] at ea
    exact h1 d a hd ha hda sd ea
  · have q := ng gd
    have p : b ≠ c := np (by omega)
    rw [ru_n q] at gd eb
    rw [ru_n p] at eb
    rw [ru_n q]
    exact h2 d b hd hb gd eb
  · have q := np sd
    rw [ru_n q] at sd
    rw [ru_n q, ru_n q]
    exact h3 d hd sd
  · have q := ng gd
    rw [ru_n q] at gd ea
    have p : a ≠ c := by
      intro z; subst z; rw [ru_s] at ea
      have := ((hB d hd).2 gd).1
      omega
    rw [ru_n p] at ea
    rw [ru_n p, ru_n q]
    exact hG d a hd ha gd ea fa
  · have q := ng gd
    have p := ng gd'
    rw [ru_n q] at gd
    rw [ru_n p] at gd'
    rw [ru_n q, ru_n p] at ht
    rw [ru_n q, ru_n p, ru_n q, ru_n p]
    exact hH d d' hd hd' gd gd' ht
  · have q := np sd
    rw [ru_n q] at sd ⊢
    exact (hB d hd).1 sd
  · have q := ng gd
    rw [ru_n q] at gd
    rw [ru_n q, ru_n q]
    exact (hB d hd).2 gd
theorem rd_same (h : rd_Safe len fm tt ps pg fr sp go zs) (e : ∀ c, c < 32 → 0 < ps c → fr' c = fr c ∧ sp' c = sp c ∧ go' c = go c ∧ zs' c = zs c) : rd_Safe len fm tt ps pg fr' sp' go' zs' := by
  obtain ⟨h1, h2, h3, hG, hH, hB⟩ := h
  refine ⟨fun d a hd ha hda sd ea => ?_, fun d b hd hb gd eb => ?_, fun d hd sd => ?_, fun d a hd ha gd ea fa => ?_, hH, fun d hd => ⟨fun sd => ?_, fun gd => ?_⟩⟩
  · obtain ⟨e1, e2, _, _⟩ := e d hd sd
    obtain ⟨a1, a2, _, a4⟩ := e a ha (by omega)
    rw [e1, e2, a1, a2, a4]
    exact h1 d a hd ha hda sd ea
  · obtain ⟨e1, e2, _, _⟩ := e d hd ((hB d hd).2 gd).1
    obtain ⟨a1, a2, _, a4⟩ := e b hb (by omega)
    rw [e1, e2, a1, a2, a4]
    exact h2 d b hd hb gd eb
  · obtain ⟨e1, e2, e3, _⟩ := e d hd sd
    rw [e1, e2, e3]
    exact h3 d hd sd
  · have sd := ((hB d hd).2 gd).1
    obtain ⟨e1, _, _, _⟩ := e d hd sd
    obtain ⟨a1, _, _, _⟩ := e a ha (by omega)
    rw [e1, a1] at fa
    exact hG d a hd ha gd ea fa
  · obtain ⟨e1, _, _, _⟩ := e d hd sd
    rw [e1]
    exact (hB d hd).1 sd
  · obtain ⟨_, _, e3, _⟩ := e d hd ((hB d hd).2 gd).1
    rw [e3]
    exact (hB d hd).2 gd
theorem rd_aim (h : rd_Safe len fm tt ps pg fr sp go zs) {c g : Nat} (g0 : pg c = 0) (hg : 0 < ps c → g ≠ rd_q (ps c) → rd_D (sp c) + fr c ≤ len (rd_q (ps c))) : rd_Safe len fm tt ps pg fr sp (ru_p go c g) zs := by
  obtain ⟨h1, h2, h3, hG, hH, hB⟩ := h
  refine ⟨h1, h2, fun d hd sd => ?_, hG, hH, fun d hd => ⟨(hB d hd).1, fun gd => ?_⟩⟩
  · rcases Nat.decEq d c with q | q
    · rw [ru_n q]; exact h3 d hd sd
    · subst q
      rw [ru_s]
      exact ⟨fun _ z => hg sd z, fun z => by omega⟩
  · have q : d ≠ c := by intro z; subst z; omega
    rw [ru_n q]
    exact (hB d hd).2 gd
theorem rd_none (hp : ∀ c, c < 32 → ps c = 0) (hg : ∀ c, c < 32 → pg c = 0) : rd_Safe len fm tt ps pg fr sp go zs := by
  refine ⟨fun d a hd ha hda sd ea => ?_, fun d b hd hb gd eb => ?_, fun d hd sd => ?_, fun d a hd ha gd ea fa => ?_, fun d d' hd hd' gd gd' ht => ?_, fun d hd => ⟨fun sd => ?_, fun gd => ?_⟩⟩
  · have := hp d hd; omega
  · have := hg d hd; omega
  · have := hp d hd; omega
  · have := hg d hd; omega
  · have := hg d hd; omega
  · have := hp d hd; omega
  · have := hg d hd; omega
end
/-! the greatest speed up to s that P lets be -/
def rd_gr (P : Nat → Prop) (s u : Nat) : Prop := u ≤ s ∧ (u = 0 ∨ P u) ∧ ∀ x, u < x → x ≤ s → ¬ P x
theorem rd_gr2 {P Q : Nat → Prop} {s a b : Nat} (hP : ∀ x y, x ≤ y → 0 < x → P y → P x) (h : rd_gr P s a) (k : rd_gr Q a b) : rd_gr (fun x => P x ∧ Q x) s b := by
  obtain ⟨h1, h2, h3⟩ := h
  obtain ⟨k1, k2, k3⟩ := k
  refine ⟨by omega, ?_, fun x hx hs hn => ?_⟩
  · rcases k2 with k2 | k2
    · exact Or.inl k2
    · rcases Nat.eq_zero_or_pos b with z | z
      · exact Or.inl z
      · rcases h2 with h2 | h2
        · omega
        · exact Or.inr ⟨hP b a k1 z h2, k2⟩
  · rcases Nat.lt_or_ge a x with z | z
    · exact h3 x z hs hn.1
    · exact k3 x hx z hn.2
theorem rd_grU {P : Nat → Prop} {s a b : Nat} (h : rd_gr P s a) (k : rd_gr P s b) : a = b := by
  obtain ⟨h1, h2, h3⟩ := h
  obtain ⟨k1, k2, k3⟩ := k
  rcases Nat.lt_trichotomy a b with z | z | z
  · rcases k2 with k2 | k2
    · omega
    · exact absurd k2 (h3 b z k1)
  · exact z
  · rcases h2 with h2 | h2
    · omega
    · exact absurd h2 (k3 a z h1)
theorem rd_grL {P : Nat → Prop} {s u x : Nat} (h : rd_gr P s u) (hx : x ≤ s) (hp : x = 0 ∨ P x) : x ≤ u := by
  obtain ⟨h1, h2, h3⟩ := h
  rcases Nat.lt_or_ge u x with z | z
  · rcases hp with hp | hp
    · omega
    · exact absurd hp (h3 x z hx)
  · exact z
theorem rd_grE {P Q : Nat → Prop} {s u : Nat} (e : ∀ x, 0 < x → x ≤ s → (P x ↔ Q x)) (h : rd_gr P s u) : rd_gr Q s u := by
  obtain ⟨h1, h2, h3⟩ := h
  refine ⟨h1, ?_, fun x hx hs hq => h3 x hx hs ((e x (by omega) hs).mpr hq)⟩
  rcases Nat.eq_zero_or_pos u with z | z
  · exact Or.inl z
  · rcases h2 with h2 | h2
    · omega
    · exact Or.inr ((e u z h1).mp h2)
/-- speed u keeps clear of what moves with speed w behind the gap g -/
def rd_ok (g w u : Nat) : Prop := u ≤ g + (w - 2) ∧ u + rd_D u ≤ g + rd_D w
theorem rd_okD {g w : Nat} : ∀ x y, x ≤ y → 0 < x → rd_ok g w y → rd_ok g w x := by
  intro x y h _ k
  unfold rd_ok at *
  have := rd_Dm h
  omega
theorem rd_ok2 {g w v : Nat} (h : rd_D v ≤ g + rd_D w) : v - 2 = 0 ∨ rd_ok g w (v - 2) := by
  match v, h with
  | 0, _ => exact Or.inl rfl
  | 1, _ => exact Or.inl rfl
  | v + 2, h =>
    right
    have e : v + 2 - 2 = v := by omega
    rw [e]
    rw [rd_D2] at h
    exact ⟨rd_Dreach h, h⟩
