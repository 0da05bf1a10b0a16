/-! MOVES in pure numbers -/
/-- within the END's bound -/
def rq_sE (le ed fr go pg : Nat → Nat) (c x : Nat) : Prop := (pg c = 0 → go c ≠ ed c → rd_ok (le (ed c) - fr c) 0 x) ∧ (0 < pg c → go c ≠ rd_q (pg c) → rd_ok (le (ed c) + le (rd_q (pg c)) - fr c) 0 x)
/-- within the bound of the one AHEAD -/
def rq_sL (le ed fr sp ps pg zs : Nat → Nat) (c x : Nat) : Prop := (∀ a, rd_nr ps fr (ps c) (fr c) 32 = a + 1 → rd_ok (fr a - zs a - 1 - fr c) (sp a) x) ∧
  (rd_nr ps fr (ps c) (fr c) 32 = 0 → 0 < pg c → ∀ b, rd_nr ps fr (pg c) 0 32 = b + 1 → rd_ok (fr b + le (ed c) - zs b - 1 - fr c) (sp b) x)
def rq_wish (li tp ac ty ed sp : Nat → Nat) (c : Nat) : Nat := min (max (min (tp (ty c)) (li (ed c))) (sp c - 2)) (sp c + ac (ty c))
def rd_M1 (len ps pg fr go u ps' pg' fr' sp' : Nat → Nat) (c : Nat) : Prop :=
  (ps c = 0 → ps' c = 0 ∧ pg' c = 0) ∧
  (0 < ps c → fr c + u c ≤ len (rd_q (ps c)) → ps' c = ps c ∧ pg' c = pg c ∧ fr' c = fr c + u c ∧ sp' c = u c) ∧
  (0 < ps c → len (rd_q (ps c)) < fr c + u c → go c = rd_q (ps c) → ps' c = 0 ∧ pg' c = 0) ∧
  (0 < ps c → len (rd_q (ps c)) < fr c + u c → go c ≠ rd_q (ps c) → 0 < pg c ∧ ps' c = pg c ∧ pg' c = 0 ∧ fr' c + len (rd_q (ps c)) = fr c + u c ∧ sp' c = u c)
theorem rd_okB {p u q w s : Nat} (hq : p + s + 1 ≤ q) (h : u = 0 ∨ rd_ok (q - s - 1 - p) w u) : rd_Bd p u q w s := by
  unfold rd_ok at h
  unfold rd_Bd
  omega
section
variable {ln fm tt le li rk we op mk wn tp ac st ty ed fr sp go tk en ch ps pg cf ct la gr cr ne nl oe ol fl zs u : Nat → Nat} {tn N c v x : Nat}
/-- a new speed within the bounds keeps all that MOVES need -/
theorem rq_Uc (hC : rq_C ln st ty ed fr sp go tk en ch ps pg cf ct la gr cr ne nl oe ol fl tn N) (hS : rd_Safe le fm tt ps pg fr sp go zs) (hc : c < 32) (h2 : st c = 2) (hx : x = 0 ∨ (rq_sE le ed fr go pg c x ∧ rq_sL le ed fr sp ps pg zs c x)) :
    (∀ a, a < 32 → ps a = ps c → fr c < fr a → rd_Bd (fr c) x (fr a) (sp a) (zs a)) ∧
    (0 < pg c → ∀ b, b < 32 → ps b = pg c → rd_Bd (fr c) x (fr b + le (rd_q (ps c))) (sp b) (zs b)) ∧
    (pg c = 0 → go c ≠ rd_q (ps c) → x = 0 ∨ x + rd_D x + fr c ≤ le (rd_q (ps c))) ∧
    (0 < pg c → go c ≠ rd_q (pg c) → x = 0 ∨ x + rd_D x + fr c ≤ le (rd_q (ps c)) + le (rd_q (pg c))) := by
  obtain ⟨q1, q2, q3, q4, q5, q6⟩ := rq_psE hC hc h2
  have hB := ((hS.2.2.2.2.2 c hc).1 q2)
  have key := rd_Uc (u := x) hS hc q2 rd_nrN (fun a ha => ?_) (fun n0 g0 => ⟨_, rd_nrN, fun b hb => ?_⟩)
  · refine ⟨key.1, key.2, fun g0 gn => ?_, fun g0 gn => ?_⟩
    · rcases hx with z | z
      · exact Or.inl z
      · right
        have := z.1.1 g0 (by rw [← q1]; exact gn)
        unfold rd_ok at this
        rw [rd_D0] at this
        rw [q1] at hB ⊢
        omega
    · rcases hx with z | z
      · exact Or.inl z
      · right
        have := z.1.2 g0 gn
        unfold rd_ok at this
        rw [rd_D0] at this
        rw [q1] at hB ⊢
        omega
  · rcases rd_nrS (ps := ps) (fr := fr) (s := ps c) (p := fr c) 32 with ⟨k1, _⟩ | ⟨b, k1, k2, k3, k4, _⟩
    · omega
    · have e : b = a := by omega
      subst e
      have f := (hS.1 c b hc k2 (by intro z; subst z; omega) q2 k3).2 k4
      refine rd_okB f.1 ?_
      rcases hx with z | z
      · exact Or.inl z
      · exact Or.inr (z.2.1 b ha)
  · rcases rd_nrS (ps := ps) (fr := fr) (s := pg c) (p := 0) 32 with ⟨k1, _⟩ | ⟨a, k1, k2, k3, k4, _⟩
    · omega
    · have e : a = b := by omega
      subst e
      have f := hS.2.1 c a hc k2 g0 k3
      refine rd_okB f.1 ?_
      rcases hx with z | z
      · exact Or.inl z
      · right
        rw [q1]
        exact z.2.2 n0 g0 a hb
/-- falling by 2 is within the bounds -/
theorem rq_Ul (hC : rq_C ln st ty ed fr sp go tk en ch ps pg cf ct la gr cr ne nl oe ol fl tn N) (hS : rd_Safe le fm tt ps pg fr sp go zs) (hc : c < 32) (h2 : st c = 2) : sp c - 2 = 0 ∨ (rq_sE le ed fr go pg c (sp c - 2) ∧ rq_sL le ed fr sp ps pg zs c (sp c - 2)) := by
  obtain ⟨q1, q2, q3, q4, q5, q6⟩ := rq_psE hC hc h2
  rcases Nat.eq_zero_or_pos (sp c - 2) with z | z
  · exact Or.inl z
  · right
    have hB := ((hS.2.2.2.2.2 c hc).1 q2)
    have pos : ∀ {g w : Nat}, rd_D (sp c) ≤ g + rd_D w → rd_ok g w (sp c - 2) := by
      intro g w h
      rcases rd_ok2 (g := g) (w := w) h with k | k
      · omega
      · exact k
    have h3 := hS.2.2.1 c hc q2
    rw [q1] at h3 hB
    refine ⟨⟨fun g0 gn => pos ?_, fun g0 gn => pos ?_⟩, fun a ha => pos ?_, fun n0 g0 b hb => pos ?_⟩
    · have := h3.1 g0 gn; omega
    · have := h3.2 g0 gn; omega
    · rcases rd_nrS (ps := ps) (fr := fr) (s := ps c) (p := fr c) 32 with ⟨k1, _⟩ | ⟨b, k1, k2, k3, k4, _⟩
      · omega
      · have e : b = a := by omega
        subst e
        have f := (hS.1 c b hc k2 (by intro y; subst y; omega) q2 k3).2 k4
        unfold rd_Fo at f
        omega
    · rcases rd_nrS (ps := ps) (fr := fr) (s := pg c) (p := 0) 32 with ⟨k1, _⟩ | ⟨a, k1, k2, k3, k4, _⟩
      · omega
      · have e : a = b := by omega
        subst e
        have f := hS.2.1 c a hc k2 g0 k3
        rw [q1] at f
        unfold rd_Fo at f
        omega
theorem rq_sD {y : Nat} (h : y ≤ x) (h0 : 0 < y) (k : rq_sE le ed fr go pg c x ∧ rq_sL le ed fr sp ps pg zs c x) : rq_sE le ed fr go pg c y ∧ rq_sL le ed fr sp ps pg zs c y :=
  ⟨⟨fun a b => rd_okD _ _ h h0 (k.1.1 a b), fun a b => rd_okD _ _ h h0 (k.1.2 a b)⟩, fun a b => rd_okD _ _ h h0 (k.2.1 a b), fun a b d e => rd_okD _ _ h h0 (k.2.2 a b d e)⟩
theorem rq_wishL (hT : 1 ≤ ac (ty c)) : sp c - 2 ≤ rq_wish li tp ac ty ed sp c := by
  unfold rq_wish; omega
theorem rq_wishU (hT : tp (ty c) ≤ 12) (hs : sp c ≤ 12) : rq_wish li tp ac ty ed sp c ≤ 12 := by
  unfold rq_wish; omega
/-- the new speed: the greatest within the bounds, or one less, but never more than 2 below the old one -/
theorem rq_U1 (hC : rq_C ln st ty ed fr sp go tk en ch ps pg cf ct la gr cr ne nl oe ol fl tn N) (hS : rd_Safe le fm tt ps pg fr sp go zs) (hc : c < 32) (h2 : st c = 2) (hac : 1 ≤ ac (ty c)) (htp : tp (ty c) ≤ 12)
    (hg : rd_gr (fun y => rq_sE le ed fr go pg c y ∧ rq_sL le ed fr sp ps pg zs c y) (rq_wish li tp ac ty ed sp c) v) (hx : x = v ∨ (x + 1 = v ∧ sp c ≤ x + 2)) :
    x ≤ 12 ∧ sp c ≤ x + 2 ∧
    (∀ a, a < 32 → ps a = ps c → fr c < fr a → rd_Bd (fr c) x (fr a) (sp a) (zs a)) ∧
    (0 < pg c → ∀ b, b < 32 → ps b = pg c → rd_Bd (fr c) x (fr b + le (rd_q (ps c))) (sp b) (zs b)) ∧
    (pg c = 0 → go c ≠ rd_q (ps c) → x = 0 ∨ x + rd_D x + fr c ≤ le (rd_q (ps c))) ∧
    (0 < pg c → go c ≠ rd_q (pg c) → x = 0 ∨ x + rd_D x + fr c ≤ le (rd_q (ps c)) + le (rd_q (pg c))) := by
  have w1 : sp c - 2 ≤ rq_wish li tp ac ty ed sp c := rq_wishL hac
  have w2 : rq_wish li tp ac ty ed sp c ≤ 12 := rq_wishU htp (hC.1 c).2.2.2.2.2.1
  have l1 := rd_grL hg w1 (rq_Ul hC hS hc h2)
  have g1 := hg.1
  refine ⟨by omega, by omega, rq_Uc hC hS hc h2 ?_⟩
  rcases Nat.eq_zero_or_pos x with z | z
  · exact Or.inl z
  · right
    rcases hg.2.1 with k | k
    · omega
    · exact rq_sD (by omega) z k
theorem rq_mvA (hC : rq_C ln st ty ed fr sp go tk en ch ps pg cf ct la gr cr ne nl oe ol fl tn N) {y : Nat} (hx : x ≤ 400) (hy : y ≤ 12) : rq_C ln st ty ed (ru_p fr c x) (ru_p sp c y) go tk en ch ps pg cf ct la gr cr ne nl oe ol fl tn N := by
  refine ⟨fun d => ?_, hC.2⟩
  have a := hC.1 d
  rcases Nat.decEq d c with z | z
  · rw [ru_n z, ru_n z]; exact a
  · subst z
    rw [ru_s, ru_s]
    omega
theorem rq_mvB (hC : rq_C ln st ty ed fr sp go tk en ch ps pg cf ct la gr cr ne nl oe ol fl tn N) : rq_C ln (ru_p st c 0) ty ed fr sp go tk en ch (ru_p ps c 0) (ru_p pg c 0) (ru_p cf c 0) (ru_p ct c 0) la (ru_p gr c 0) cr ne nl oe ol fl tn N := by
  refine ⟨fun d => ?_, fun d hd => ?_⟩
  · have a := hC.1 d
    rcases Nat.decEq d c with z | z
    · rw [ru_n z]; exact a
    · subst z
      rw [ru_s]
      omega
  · obtain ⟨b1, b2, b3, b4, b5⟩ := hC.2 d hd
    rcases Nat.decEq d c with z | z
    · rw [ru_n z, ru_n z, ru_n z, ru_n z, ru_n z, ru_n z]
      exact ⟨b1, b2, b3, b4, b5⟩
    · subst z
      rw [ru_s, ru_s, ru_s, ru_s, ru_s, ru_s]
      exact ⟨fun k => absurd rfl k, fun k => by omega, fun _ => ⟨rfl, rfl, rfl⟩, Or.inl ⟨rfl, rfl⟩, fun k => by omega⟩
theorem rq_mvX (hC : rq_C ln st ty ed fr sp go tk en ch ps pg cf ct la gr cr ne nl oe ol fl tn N) (h2l : ∀ e, ln e ≤ 2) (hc : c < 32) (hg : 0 < pg c) (hx : x ≤ 400) : rq_C ln st ty (ru_p ed c (ne c)) (ru_p fr c x) sp go tk en ch (ru_p ps c (pg c)) (ru_p pg c 0) (ru_p cf c (ps c)) (ru_p ct c (pg c)) (ru_p la c (nl c)) (ru_p gr c 0) (ru_p cr c 1) ne nl (ru_p oe c (ed c)) (ru_p ol c (la c)) (ru_p fl c (nl c)) tn N := by
  obtain ⟨g1, g2, g3, g4, g5⟩ := rq_pgS hC hc hg
  have k2 := h2l (ne c)
  refine ⟨fun d => ?_, fun d hd => ?_⟩
  · have a := hC.1 d
    rcases Nat.decEq d c with z | z
    · rw [ru_n z, ru_n z, ru_n z]; exact a
    · subst z
      rw [ru_s, ru_s, ru_s]
      omega
  · obtain ⟨b1, b2, b3, b4, b5⟩ := hC.2 d hd
    rcases Nat.decEq d c with z | z
    · rw [ru_n z, ru_n z, ru_n z, ru_n z, ru_n z, ru_n z, ru_n z, ru_n z, ru_n z, ru_n z, ru_n z]
      exact ⟨b1, b2, b3, b4, b5⟩
    · subst z
      obtain ⟨q1, q2, q3, q4, q5, q6⟩ := rq_psE hC hd g1
      have p1 := (b2 g1).1
      have a := hC.1 d
      rw [ru_s, ru_s, ru_s, ru_s, ru_s, ru_s, ru_s, ru_s, ru_s, ru_s, ru_s]
      exact ⟨fun k => ⟨by omega, (b1 k).2⟩, fun _ => ⟨g3, g4⟩, fun k => absurd g1 k, Or.inl ⟨rfl, rfl⟩, fun _ => Or.inr ⟨rfl, p1, by omega, a.2.2.1, g3, by omega⟩⟩
end
