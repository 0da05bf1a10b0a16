/-! connect, weight, phase -/
theorem ru_id {T : Nat → Nat} {e : Nat} : ru_p T e (T e) = T := by
  funext j
  unfold ru_p
  by_cases h : j = e
  · rw [if_pos h, h]
  · rw [if_neg h]
def ra_conn (ln : Nat → Nat) (p0 p1 p2 : Int32) : Prop := ∃ e l m : Nat, p0 = nI e ∧ p1 = nI l ∧ p2 = nI m ∧ e < 16 ∧ l < ln e ∧ m < 65536
section
variable {ln fm tt le li rk we op ca mk wd wn fa pc ph pa pe pt se ls mo tp ac sz dw st ty ed fr sp go nz tk en ch nw ps pg cf ct la gr cr ne nl oe ol fl tl : Nat → Nat} {tn kn N : Nat} {th : Int32} {gp fs : Nat → Int32}
theorem rx_connN (post : Int32 → SX → Prop) {p0 p1 p2 : Int32} (I : (rq_L ln fm tt le li rk we op mk wd wn pc ph pa pe pt se ls mo tp ac sz dw st ty ed fr sp go tk en ch ps pg cf ct la gr cr ne nl oe ol fl tl tn N)) (hn : ¬ ra_conn ln p0 p1 p2) (h : post 0 (nI tn, rn_A ln, rn_A fm, rn_A tt, rn_A le, rn_A li, rn_A rk, rn_A we, rn_A op, rn_A ca, rn_A mk, rn_B wd, rn_B wn, rn_A pc, rn_A ph, rn_A pa, rn_A pe, rn_A pt, rn_A tp, rn_A ac, rn_A sz, rn_A dw, rn_A st, rn_A ty, rn_A ed, rn_B ps, rn_A fr, rn_A sp, rn_A go, rn_A nz, rn_B pg, rn_B cf, rn_B ct, rn_A tk, rn_A en, rn_B ch, rn_A nw, rn_A tl)) : wpX_connect post (nI tn, rn_A ln, rn_A fm, rn_A tt, rn_A le, rn_A li, rn_A rk, rn_A we, rn_A op, rn_A ca, rn_A mk, rn_B wd, rn_B wn, rn_A pc, rn_A ph, rn_A pa, rn_A pe, rn_A pt, rn_A tp, rn_A ac, rn_A sz, rn_A dw, rn_A st, rn_A ty, rn_A ed, rn_B ps, rn_A fr, rn_A sp, rn_A go, rn_A nz, rn_B pg, rn_B cf, rn_B ct, rn_A tk, rn_A en, rn_B ch, rn_A nw, rn_A tl) p0 p1 p2 := by
  unfold wpX_connect
  refine rx_il _ _ _ (fun e => (rI_e I e).1) (rb_b (fun _ => h) (fun ⟨e, l, e1, e2, e3, e4⟩ => br_c (fun _ => h) (fun k1 => br_c (fun k2 => ?_) (fun _ => h))))
  obtain ⟨m, q2, _, hm⟩ := rn_rg (a := 0) (b := 65535) (by omega) (by omega) k1 (Int32.not_lt.mpr k2)
  exact absurd ⟨e, l, m, e2, e3, q2, e1, e4, by omega⟩ hn
theorem ry_connN (post : Int32 → SY → Prop) {p0 p1 p2 : Int32} (I : (rq_L ln fm tt le li rk we op mk wd wn pc ph pa pe pt se ls mo tp ac sz dw st ty ed fr sp go tk en ch ps pg cf ct la gr cr ne nl oe ol fl tl tn N)) (hn : ¬ ra_conn ln p0 p1 p2) (h : post 0 (nI kn, nI tn, th, rn_T ln, rn_A op, rn_A fm, rn_A tt, rn_A le, rn_A ln, rn_A li, rn_A rk, rn_A we, rn_A ca, rn_A mk, rn_A fa, rn_A tp, rn_A ac, rn_A sz, rn_A dw, rn_A st, rn_A ty, rn_A ed, rn_A la, rn_A fr, rn_A sp, rn_A go, rn_A nz, rn_A tk, rn_C ch, rn_A en, rn_A nw, rn_A gr, rn_A cr, rn_A ne, rn_A nl, rn_A oe, rn_A ol, rn_A fl, rn_A pc, rn_A ph, rn_A pa, rn_A se, rn_A ls, rn_A mo, rn_A tl, gp, fs)) : wpY_connect post (nI kn, nI tn, th, rn_T ln, rn_A op, rn_A fm, rn_A tt, rn_A le, rn_A ln, rn_A li, rn_A rk, rn_A we, rn_A ca, rn_A mk, rn_A fa, rn_A tp, rn_A ac, rn_A sz, rn_A dw, rn_A st, rn_A ty, rn_A ed, rn_A la, rn_A fr, rn_A sp, rn_A go, rn_A nz, rn_A tk, rn_C ch, rn_A en, rn_A nw, rn_A gr, rn_A cr, rn_A ne, rn_A nl, rn_A oe, rn_A ol, rn_A fl, rn_A pc, rn_A ph, rn_A pa, rn_A se, rn_A ls, rn_A mo, rn_A tl, gp, fs) p0 p1 p2 := by
  unfold wpY_connect
  refine ry_ie _ _ (rb_b (fun _ => h) (fun ⟨e, e1, e2, e3⟩ => ?_))
  subst e2
  have A := rI_e I e
  refine ⟨pk_in e 16 e1, ?_⟩
  rw [rn_rA (by omega), show (1 : Int32) = nI 1 from rfl, pk_sub (by omega)]
  refine ry_in _ _ _ _ (rb_b (fun _ => h) (fun k1 => ry_in _ _ _ _ (rb_b (fun _ => h) (fun k2 => ?_))))
  obtain ⟨l, q1, _, hl⟩ := rn_rg (a := 0) (b := ln e - 1) (by omega) (by omega) k1.1 k1.2
  obtain ⟨m, q2, _, hm⟩ := rn_rg (a := 0) (b := 65535) (by omega) (by omega) k2.1 k2.2
  exact absurd ⟨e, l, m, rfl, q1, q2, e1, by omega, by omega⟩ hn
theorem rx_connA (post : Int32 → SX → Prop) {e l m : Nat} (I : (rq_L ln fm tt le li rk we op mk wd wn pc ph pa pe pt se ls mo tp ac sz dw st ty ed fr sp go tk en ch ps pg cf ct la gr cr ne nl oe ol fl tl tn N)) (he : e < 16) (hl : l < ln e) (hm : m < 65536) (hE : (rq_E ln fm tt le li rk we op (ru_p mk (2 * e + l) m))) (H : ∀ wd wn, (rq_WX ln fm tt le li we op (ru_p mk (2 * e + l) m) wd wn) → post 1 (nI tn, rn_A ln, rn_A fm, rn_A tt, rn_A le, rn_A li, rn_A rk, rn_A we, rn_A op, rn_A ca, rn_A (ru_p mk (2 * e + l) m), rn_B wd, rn_B wn, rn_A pc, rn_A ph, rn_A pa, rn_A pe, rn_A pt, rn_A tp, rn_A ac, rn_A sz, rn_A dw, rn_A st, rn_A ty, rn_A ed, rn_B ps, rn_A fr, rn_A sp, rn_A go, rn_A nz, rn_B pg, rn_B cf, rn_B ct, rn_A tk, rn_A en, rn_B ch, rn_A nw, rn_A tl)) : wpX_connect post (nI tn, rn_A ln, rn_A fm, rn_A tt, rn_A le, rn_A li, rn_A rk, rn_A we, rn_A op, rn_A ca, rn_A mk, rn_B wd, rn_B wn, rn_A pc, rn_A ph, rn_A pa, rn_A pe, rn_A pt, rn_A tp, rn_A ac, rn_A sz, rn_A dw, rn_A st, rn_A ty, rn_A ed, rn_B ps, rn_A fr, rn_A sp, rn_A go, rn_A nz, rn_B pg, rn_B cf, rn_B ct, rn_A tk, rn_A en, rn_B ch, rn_A nw, rn_A tl) (nI e) (nI l) (nI m) := by
  have A := rI_e I e
  unfold wpX_connect
  refine rx_il _ _ _ (fun e => (rI_e I e).1) (rb_b (fun w => absurd ⟨e, l, he, rfl, rfl, hl⟩ w) (fun _ => br_f (nI_pos (by omega)) (br_t (nI_le (b := 65535) (by omega) (by decide)) ?_)))
  rw [show (2 : Int32) * nI e = nI (2 * e) from pk_mul 2 _, nI_add]
  exact ⟨vp_in_nI (by omega) (by omega), nm_r (rn_uA (by omega)) (rx_ways _ hE H)⟩
theorem ry_connA (post : Int32 → SY → Prop) {e l m : Nat} (I : (rq_L ln fm tt le li rk we op mk wd wn pc ph pa pe pt se ls mo tp ac sz dw st ty ed fr sp go tk en ch ps pg cf ct la gr cr ne nl oe ol fl tl tn N)) (he : e < 16) (hl : l < ln e) (hm : m < 65536) (H : post 1 (nI 0, nI tn, th, rn_T ln, rn_A op, rn_A fm, rn_A tt, rn_A le, rn_A ln, rn_A li, rn_A rk, rn_A we, rn_A ca, rn_A (ru_p mk (2 * e + l) m), rn_A fa, rn_A tp, rn_A ac, rn_A sz, rn_A dw, rn_A st, rn_A ty, rn_A ed, rn_A la, rn_A fr, rn_A sp, rn_A go, rn_A nz, rn_A tk, rn_C ch, rn_A en, rn_A nw, rn_A gr, rn_A cr, rn_A ne, rn_A nl, rn_A oe, rn_A ol, rn_A fl, rn_A pc, rn_A ph, rn_A pa, rn_A se, rn_A ls, rn_A mo, rn_A tl, gp, fs)) : wpY_connect post (nI kn, nI tn, th, rn_T ln, rn_A op, rn_A fm, rn_A tt, rn_A le, rn_A ln, rn_A li, rn_A rk, rn_A we, rn_A ca, rn_A mk, rn_A fa, rn_A tp, rn_A ac, rn_A sz, rn_A dw, rn_A st, rn_A ty, rn_A ed, rn_A la, rn_A fr, rn_A sp, rn_A go, rn_A nz, rn_A tk, rn_C ch, rn_A en, rn_A nw, rn_A gr, rn_A cr, rn_A ne, rn_A nl, rn_A oe, rn_A ol, rn_A fl, rn_A pc, rn_A ph, rn_A pa, rn_A se, rn_A ls, rn_A mo, rn_A tl, gp, fs) (nI e) (nI l) (nI m) := by
  have A := rI_e I e
  unfold wpY_connect
  refine ry_ie _ _ (rb_b (fun w => absurd ⟨e, he, rfl, by omega⟩ w) (fun _ => ⟨pk_in e 16 he, ?_⟩))
  rw [rn_rA (by omega), show (1 : Int32) = nI 1 from rfl, pk_sub (by omega)]
  refine ry_in _ _ _ _ (rb_b (fun w => absurd ⟨nI_pos (by omega), nI_nlt (b := l) (by omega) (by omega)⟩ w) (fun _ => ry_in _ _ _ _ (rb_b (fun w => absurd ⟨nI_pos (by omega), nI_nlt (a := 65535) (b := m) (by omega) (by decide)⟩ w) (fun _ => ?_))))
  rw [show (2 : Int32) * nI e = nI (2 * e) from pk_mul 2 _, nI_add]
  exact ⟨vp_in_nI (by omega) (by omega), nm_r (rn_uA (by omega)) H⟩
theorem rl_connE {s m : Nat} (hE : (rq_E ln fm tt le li rk we op mk)) (hm : m < 65536) : (rq_E ln fm tt le li rk we op (ru_p mk s m)) := by
  obtain ⟨h1, h2, h3⟩ := hE
  refine ⟨fun i => ?_, h2, h3⟩
  have a := h1 i
  rcases Nat.decEq i s with q | q
  · rw [ru_n q]; exact a
  · subst q; rw [ru_s]; omega
end
theorem i_vc_connect {k : Nat} {u : SX} {v : SY} (I : i_Rel k u v) (hk : k + 5 ≤ 2560) (v1 : Int32) (v2 : Int32) (v3 : Int32) : wpX_connect (fun r u' => wpY_connect (fun r' v' => r' = r ∧ i_Rel (k + 5) u' v') v v1 v2 v3) u v1 v2 v3 := by
  obtain ⟨ln, fm, tt, le, li, rk, we, op, ca, mk, wd, wn, fa, pc, ph, pa, pe, pt, se, ls, mo, tp, ac, sz, dw, st, ty, ed, fr, sp, go, nz, tk, en, ch, nw, ps, pg, cf, ct, la, gr, cr, ne, nl, oe, ol, fl, tl, tn, kn, N, th, gp, fs, rfl, rfl, I, hW, hN, ht⟩ := I
  rcases Classical.em (ra_conn ln v1 v2 v3) with ⟨e, l, m, rfl, rfl, rfl, he, hl, hm⟩ | hn
  · have E1 := rl_connE (s := 2 * e + l) I.1.1 hm
    exact rx_connA _ I.1 he hl hm E1 (fun wd wn hX => ry_connA _ I.1 he hl hm ⟨rfl, rl_rel (kn := 0) ⟨⟨E1, I.1.2.1, I.1.2.2.1, I.1.2.2.2.1, hX, I.1.2.2.2.2.2⟩, I.2⟩ (Or.inl rfl) (by omega) (by omega)⟩)
  · exact rx_connN _ I.1 hn (ry_connN _ I.1 hn ⟨rfl, rl_rel I hW (by omega) (by omega)⟩)
/-! weight -/
theorem rn_neg1 {x : Int32} (h1 : ¬ x < -1) (h2 : x < 0) : x = -1 := by
  rw [Int32.lt_iff_toInt_lt, show (-1 : Int32).toInt = -1 from by decide] at h1
  rw [Int32.lt_iff_toInt_lt, show (0 : Int32).toInt = 0 from by decide] at h2
  apply Int32.toInt_inj.mp
  rw [show (-1 : Int32).toInt = -1 from by decide]
  omega
def ra_wt (ln : Nat → Nat) (p0 p1 : Int32) : Prop := (∃ e : Nat, p0 = nI e ∧ e < 16 ∧ 0 < ln e ∧ p1 = -1) ∨ (∃ e w : Nat, p0 = nI e ∧ e < 16 ∧ 0 < ln e ∧ p1 = nI w ∧ w ≤ 1000)
theorem rn_vb0 : vp_nar .boolean 0 = 0 := rfl
section
variable {ln fm tt le li rk we op ca mk wd wn fa pc ph pa pe pt se ls mo tp ac sz dw st ty ed fr sp go nz tk en ch nw ps pg cf ct la gr cr ne nl oe ol fl tl : Nat → Nat} {tn kn N : Nat} {th : Int32} {gp fs : Nat → Int32}
theorem ra_wtI {e : Nat} {x p1 : Int32} (he : e < 16) (ht : 0 < ln e) (hx : x = nI e) (h1 : ¬ p1 < -1) (h2 : p1 ≤ 1000) : ra_wt ln x p1 := by
  subst hx
  by_cases h : p1 < 0
  · exact Or.inl ⟨e, rfl, he, ht, rn_neg1 h1 h⟩
  · obtain ⟨w, q, _, hw⟩ := rn_rg (a := 0) (b := 1000) (by omega) (by omega) h (Int32.not_lt.mpr h2)
    exact Or.inr ⟨e, w, rfl, he, ht, q, hw⟩
theorem rx_wtN (post : Int32 → SX → Prop) {p0 p1 : Int32} (I : (rq_L ln fm tt le li rk we op mk wd wn pc ph pa pe pt se ls mo tp ac sz dw st ty ed fr sp go tk en ch ps pg cf ct la gr cr ne nl oe ol fl tl tn N)) (hn : ¬ ra_wt ln p0 p1) (h : post 0 (nI tn, rn_A ln, rn_A fm, rn_A tt, rn_A le, rn_A li, rn_A rk, rn_A we, rn_A op, rn_A ca, rn_A mk, rn_B wd, rn_B wn, rn_A pc, rn_A ph, rn_A pa, rn_A pe, rn_A pt, rn_A tp, rn_A ac, rn_A sz, rn_A dw, rn_A st, rn_A ty, rn_A ed, rn_B ps, rn_A fr, rn_A sp, rn_A go, rn_A nz, rn_B pg, rn_B cf, rn_B ct, rn_A tk, rn_A en, rn_B ch, rn_A nw, rn_A tl)) : wpX_weight post (nI tn, rn_A ln, rn_A fm, rn_A tt, rn_A le, rn_A li, rn_A rk, rn_A we, rn_A op, rn_A ca, rn_A mk, rn_B wd, rn_B wn, rn_A pc, rn_A ph, rn_A pa, rn_A pe, rn_A pt, rn_A tp, rn_A ac, rn_A sz, rn_A dw, rn_A st, rn_A ty, rn_A ed, rn_B ps, rn_A fr, rn_A sp, rn_A go, rn_A nz, rn_B pg, rn_B cf, rn_B ct, rn_A tk, rn_A en, rn_B ch, rn_A nw, rn_A tl) p0 p1 := by
  unfold wpX_weight
  exact rx_ie _ _ (fun e => (rI_e I e).1) (rb_b (fun _ => h) (fun ⟨e, e1, e2, e3⟩ => br_c (fun _ => h) (fun k1 => br_c (fun k2 => absurd (ra_wtI e1 e3 e2 k1 k2) hn) (fun _ => h))))
theorem ry_wtN (post : Int32 → SY → Prop) {p0 p1 : Int32} (hn : ¬ ra_wt ln p0 p1) (h : post 0 (nI kn, nI tn, th, rn_T ln, rn_A op, rn_A fm, rn_A tt, rn_A le, rn_A ln, rn_A li, rn_A rk, rn_A we, rn_A ca, rn_A mk, rn_A fa, rn_A tp, rn_A ac, rn_A sz, rn_A dw, rn_A st, rn_A ty, rn_A ed, rn_A la, rn_A fr, rn_A sp, rn_A go, rn_A nz, rn_A tk, rn_C ch, rn_A en, rn_A nw, rn_A gr, rn_A cr, rn_A ne, rn_A nl, rn_A oe, rn_A ol, rn_A fl, rn_A pc, rn_A ph, rn_A pa, rn_A se, rn_A ls, rn_A mo, rn_A tl, gp, fs)) : wpY_weight post (nI kn, nI tn, th, rn_T ln, rn_A op, rn_A fm, rn_A tt, rn_A le, rn_A ln, rn_A li, rn_A rk, rn_A we, rn_A ca, rn_A mk, rn_A fa, rn_A tp, rn_A ac, rn_A sz, rn_A dw, rn_A st, rn_A ty, rn_A ed, rn_A la, rn_A fr, rn_A sp, rn_A go, rn_A nz, rn_A tk, rn_C ch, rn_A en, rn_A nw, rn_A gr, rn_A cr, rn_A ne, rn_A nl, rn_A oe, rn_A ol, rn_A fl, rn_A pc, rn_A ph, rn_A pa, rn_A se, rn_A ls, rn_A mo, rn_A tl, gp, fs) p0 p1 := by
  unfold wpY_weight
  exact ry_ie _ _ (rb_b (fun _ => h) (fun ⟨e, e1, e2, e3⟩ => ry_in _ _ _ _ (rb_b (fun _ => h) (fun k => absurd (ra_wtI e1 e3 e2 k.1 (Int32.not_lt.mp k.2)) hn))))
theorem rl_wtE {e w o : Nat} (hE : (rq_E ln fm tt le li rk we op mk)) (ho : o ≤ 1) (hw : w ≤ 1000) (ht : 0 < ln e) : (rq_E ln fm tt le li rk (ru_p we e w) (ru_p op e o) mk) := by
  obtain ⟨h1, h2, h3⟩ := hE
  refine ⟨fun i => ?_, h2, fun i hi => ?_⟩
  · have a := h1 i
    rcases Nat.decEq i e with q | q
    · rw [ru_n q, ru_n q]; exact a
    · subst q; rw [ru_s, ru_s]; omega
  · rcases Nat.decEq i e with q | q
    · rw [ru_n q]; exact h3 i hi
    · subst q; omega
end
theorem i_vc_weight {k : Nat} {u : SX} {v : SY} (I : i_Rel k u v) (hk : k + 5 ≤ 2560) (v1 : Int32) (v2 : Int32) : wpX_weight (fun r u' => wpY_weight (fun r' v' => r' = r ∧ i_Rel (k + 5) u' v') v v1 v2) u v1 v2 := by
  obtain ⟨ln, fm, tt, le, li, rk, we, op, ca, mk, wd, wn, fa, pc, ph, pa, pe, pt, se, ls, mo, tp, ac, sz, dw, st, ty, ed, fr, sp, go, nz, tk, en, ch, nw, ps, pg, cf, ct, la, gr, cr, ne, nl, oe, ol, fl, tl, tn, kn, N, th, gp, fs, rfl, rfl, I, hW, hN, ht⟩ := I
  have hl : ∀ e, ln e ≤ 2 := fun e => (rI_e I.1 e).1
  rcases Classical.em (ra_wt ln v1 v2) with hy | hn
  · rcases hy with ⟨e, rfl, he, hte, rfl⟩ | ⟨e, w, rfl, he, hte, rfl, hw⟩
    · have E1 := rl_wtE (w := we e) (o := 0) I.1.1 (by omega) (by have := rI_e I.1 e; omega) hte
      rw [ru_id] at E1
      unfold wpX_weight
      refine rx_ie _ _ hl (rb_b (fun z => absurd ⟨e, he, rfl, hte⟩ z) (fun _ => br_f (by decide) (br_t (by decide) (br_t (by decide) ⟨pk_in e 16 he, nm_r (e' := rn_A (ru_p op e 0)) (rn_uA (x := 0) (by omega)) (br_t (by decide) (rx_ways _ E1 (fun wd wn hX => ?_)))⟩))))
      unfold wpY_weight
      refine ry_ie _ _ (rb_b (fun z => absurd ⟨e, he, rfl, hte⟩ z) (fun _ => ry_in _ _ _ _ (rb_b (fun z => absurd ⟨by decide, by decide⟩ z) (fun _ => br_t (by decide) ⟨pk_in e 16 he, nm_r (e' := rn_A (ru_p op e 0)) (rn_uA (x := 0) (by omega)) (br_t (by decide) ?_)⟩))))
      exact ⟨rfl, rl_rel (kn := 0) ⟨⟨E1, I.1.2.1, I.1.2.2.1, I.1.2.2.2.1, hX, I.1.2.2.2.2.2⟩, I.2⟩ (Or.inl rfl) (by omega) (by omega)⟩
    · have E1 := rl_wtE (w := w) (o := 1) I.1.1 (by omega) hw hte
      have n0 : ¬ nI w < 0 := nI_pos (by omega)
      have n1 : ¬ nI w < -1 := by
        intro z
        rw [Int32.lt_iff_toInt_lt, nI_toInt (by omega), show (-1 : Int32).toInt = -1 from by decide] at z
        omega
      unfold wpX_weight
      refine rx_ie _ _ hl (rb_b (fun z => absurd ⟨e, he, rfl, hte⟩ z) (fun _ => br_f n1 (br_t (nI_le (b := 1000) hw (by decide)) (br_f n0 ⟨pk_in e 16 he, nm_r (e' := rn_A (ru_p op e 1)) (rn_uA (x := 1) (by omega)) (br_f n0 ⟨pk_in e 16 he, nm_r (rn_uA (by omega)) (rx_ways _ E1 (fun wd wn hX => ?_))⟩)⟩))))
      unfold wpY_weight
      refine ry_ie _ _ (rb_b (fun z => absurd ⟨e, he, rfl, hte⟩ z) (fun _ => ry_in _ _ _ _ (rb_b (fun z => absurd ⟨n1, nI_nlt (a := 1000) hw (by decide)⟩ z) (fun _ => br_f n0 ⟨pk_in e 16 he, nm_r (e' := rn_A (ru_p op e 1)) (rn_uA (x := 1) (by omega)) (br_f n0 ⟨pk_in e 16 he, nm_r (rn_uA (by omega)) ?_⟩)⟩))))
      exact ⟨rfl, rl_rel (kn := 0) ⟨⟨E1, I.1.2.1, I.1.2.2.1, I.1.2.2.2.1, hX, I.1.2.2.2.2.2⟩, I.2⟩ (Or.inl rfl) (by omega) (by omega)⟩
  · exact rx_wtN _ I.1 hn (ry_wtN _ hn ⟨rfl, rl_rel I hW (by omega) (by omega)⟩)
/-! phase -/
def ra_ph (pc : Nat → Nat) (p0 p1 p2 p3 : Int32) : Prop := ∃ j k e t : Nat, p0 = nI j ∧ j < 8 ∧ p1 = nI k ∧ k < 4 ∧ k ≤ pc j ∧ p2 = nI e ∧ e < 65536 ∧ p3 = nI t ∧ (t = 0 ∨ (0 < t ∧ t ≤ 9999 ∧ 1 ≤ t % 100 ∧ t % 100 ≤ t / 100))
theorem rn_100 {t : Nat} (h : t < 65536) : nI t - nI t / 100 * 100 = nI (t % 100) ∧ nI t / 100 = nI (t / 100) := ⟨pk_rem (d := 100) (by omega) (by omega) (by omega), pk_div (d := 100) (by omega) (by omega) (by omega)⟩
section
variable {ln fm tt le li rk we op ca mk wd wn fa pc ph pa pe pt se ls mo tp ac sz dw st ty ed fr sp go nz tk en ch nw ps pg cf ct la gr cr ne nl oe ol fl tl : Nat → Nat} {tn kn N : Nat} {th : Int32} {gp fs : Nat → Int32}
theorem rx_phN (post : Int32 → SX → Prop) {p0 p1 p2 p3 : Int32} (I : (rq_L ln fm tt le li rk we op mk wd wn pc ph pa pe pt se ls mo tp ac sz dw st ty ed fr sp go tk en ch ps pg cf ct la gr cr ne nl oe ol fl tl tn N)) (hn : ¬ ra_ph pc p0 p1 p2 p3) (h : post 0 (nI tn, rn_A ln, rn_A fm, rn_A tt, rn_A le, rn_A li, rn_A rk, rn_A we, rn_A op, rn_A ca, rn_A mk, rn_B wd, rn_B wn, rn_A pc, rn_A ph, rn_A pa, rn_A pe, rn_A pt, rn_A tp, rn_A ac, rn_A sz, rn_A dw, rn_A st, rn_A ty, rn_A ed, rn_B ps, rn_A fr, rn_A sp, rn_A go, rn_A nz, rn_B pg, rn_B cf, rn_B ct, rn_A tk, rn_A en, rn_B ch, rn_A nw, rn_A tl)) : wpX_phase post (nI tn, rn_A ln, rn_A fm, rn_A tt, rn_A le, rn_A li, rn_A rk, rn_A we, rn_A op, rn_A ca, rn_A mk, rn_B wd, rn_B wn, rn_A pc, rn_A ph, rn_A pa, rn_A pe, rn_A pt, rn_A tp, rn_A ac, rn_A sz, rn_A dw, rn_A st, rn_A ty, rn_A ed, rn_B ps, rn_A fr, rn_A sp, rn_A go, rn_A nz, rn_B pg, rn_B cf, rn_B ct, rn_A tk, rn_A en, rn_B ch, rn_A nw, rn_A tl) p0 p1 p2 p3 := by
  refine br_c (fun _ => h) (fun k0 => br_c (fun _ => h) (fun k1 => br_c (fun _ => h) (fun k2 => br_c (fun _ => h) (fun k3 => ?_))))
  obtain ⟨j, hj, rfl⟩ := rn_16 (M := 8) (by omega) k0 k1
  obtain ⟨k, hk, rfl⟩ := rn_16 (M := 4) (by omega) k2 k3
  have P := (I.2.2.1 j hj).1
  refine ⟨pk_in j 8 hj, pk_le k (pc j) (fun k4 => br_c (fun _ => h) (fun k5 => br_c (fun k6 => ?_) (fun _ => h))) (fun _ => h) rfl (rn_rA (by omega))⟩
  obtain ⟨e, rfl, _, he⟩ := rn_rg (a := 0) (b := 65535) (by omega) (by omega) k5 (Int32.not_lt.mpr k6)
  refine br_c (fun k7 => absurd ⟨j, k, e, 0, rfl, hj, rfl, hk, k4, rfl, by omega, k7, Or.inl rfl⟩ hn) (fun k7 => br_c (fun _ => h) (fun k8 => br_c (fun _ => h) (fun k9 => ⟨by decide, ?_⟩)))
  obtain ⟨t, rfl, _, ht⟩ := rn_rg (a := 0) (b := 9999) (by omega) (by omega) k8 k9
  obtain ⟨b1, b2⟩ := rn_100 (t := t) (by omega)
  rw [b1, b2]
  refine pk_lt (t % 100) 1 (fun _ => h) (fun k10 => ⟨by decide, by decide, pk_le (t % 100) (t / 100) (fun k11 => ?_) (fun _ => h)⟩)
  refine absurd ⟨j, k, e, t, rfl, hj, rfl, hk, k4, rfl, by omega, rfl, Or.inr ⟨?_, ht, k10, k11⟩⟩ hn
  rcases Nat.eq_zero_or_pos t with z | z
  · subst z; exact absurd rfl k7
  · exact z
theorem ry_phN (post : Int32 → SY → Prop) {p0 p1 p2 p3 : Int32} (I : (rq_L ln fm tt le li rk we op mk wd wn pc ph pa pe pt se ls mo tp ac sz dw st ty ed fr sp go tk en ch ps pg cf ct la gr cr ne nl oe ol fl tl tn N)) (hn : ¬ ra_ph pc p0 p1 p2 p3) (h : post 0 (nI kn, nI tn, th, rn_T ln, rn_A op, rn_A fm, rn_A tt, rn_A le, rn_A ln, rn_A li, rn_A rk, rn_A we, rn_A ca, rn_A mk, rn_A fa, rn_A tp, rn_A ac, rn_A sz, rn_A dw, rn_A st, rn_A ty, rn_A ed, rn_A la, rn_A fr, rn_A sp, rn_A go, rn_A nz, rn_A tk, rn_C ch, rn_A en, rn_A nw, rn_A gr, rn_A cr, rn_A ne, rn_A nl, rn_A oe, rn_A ol, rn_A fl, rn_A pc, rn_A ph, rn_A pa, rn_A se, rn_A ls, rn_A mo, rn_A tl, gp, fs)) : wpY_phase post (nI kn, nI tn, th, rn_T ln, rn_A op, rn_A fm, rn_A tt, rn_A le, rn_A ln, rn_A li, rn_A rk, rn_A we, rn_A ca, rn_A mk, rn_A fa, rn_A tp, rn_A ac, rn_A sz, rn_A dw, rn_A st, rn_A ty, rn_A ed, rn_A la, rn_A fr, rn_A sp, rn_A go, rn_A nz, rn_A tk, rn_C ch, rn_A en, rn_A nw, rn_A gr, rn_A cr, rn_A ne, rn_A nl, rn_A oe, rn_A ol, rn_A fl, rn_A pc, rn_A ph, rn_A pa, rn_A se, rn_A ls, rn_A mo, rn_A tl, gp, fs) p0 p1 p2 p3 := by
  unfold wpY_phase
  refine ry_in _ _ _ _ (rb_b (fun _ => h) (fun k0 => ry_in _ _ _ _ (rb_b (fun _ => h) (fun k2 => ?_))))
  obtain ⟨j, rfl, _, hj⟩ := rn_rg (a := 0) (b := 7) (by omega) (by omega) k0.1 k0.2
  obtain ⟨k, rfl, _, hk⟩ := rn_rg (a := 0) (b := 3) (by omega) (by omega) k2.1 k2.2
  have P := (I.2.2.1 j (by omega)).1
  refine ⟨vp_in_nI (by omega) (by omega), pk_lt (pc j) k (fun _ => h) (fun k4 => ry_in _ _ _ _ (rb_b (fun _ => h) (fun k5 => ⟨by decide, fun x5 e5 => ⟨by decide, fun x6 e6 => ?_⟩⟩))) (rn_rA (by omega))⟩
  obtain ⟨e, rfl, _, he⟩ := rn_rg (a := 0) (b := 65535) (by omega) (by omega) k5.1 k5.2
  refine br_c (fun k7 => absurd ⟨j, k, e, 0, rfl, by omega, rfl, by omega, k4, rfl, by omega, k7, Or.inl rfl⟩ hn) (fun k7 => ry_in _ _ _ _ (rb_b (fun _ => h) (fun k8 => ?_)))
  obtain ⟨t, rfl, _, ht⟩ := rn_rg (a := 0) (b := 9999) (by omega) (by omega) k8.1 k8.2
  obtain ⟨b1, b2⟩ := rn_100 (t := t) (by omega)
  rw [b1] at e5
  rw [b2] at e6
  subst e5 e6
  refine pk_lt (t % 100) 1 (fun _ => h) (fun k10 => pk_le (t % 100) (t / 100) (fun k11 => ?_) (fun _ => h))
  refine absurd ⟨j, k, e, t, rfl, by omega, rfl, by omega, k4, rfl, by omega, rfl, Or.inr ⟨?_, ht, k10, k11⟩⟩ hn
  rcases Nat.eq_zero_or_pos t with z | z
  · subst z; exact absurd rfl k7
  · exact z
/-- what a phase that is set keeps -/
theorem rl_phP {j k e t n : Nat} (h : (rq_P pc ph pa pe pt se ls mo N)) (hj : j < 8) (hk : k < 4) (hkc : k ≤ pc j) (he : e < 65536) (ht : t ≤ 9999) (hn : n ≤ 4) (hn2 : n = k ∨ (k < n ∧ (n = k + 1 ∨ n = pc j))) : (rq_P (ru_p pc j n) (ru_p ph j 0) (ru_p pa j 0) (ru_p pe (4 * j + k) e) (ru_p pt (4 * j + k) t) (ru_p se (4 * j + k) e) (ru_p ls (4 * j + k) (t % 100)) (ru_p mo (4 * j + k) (t / 100)) N) := by
  intro i hi
  obtain ⟨b1, b2, b3, b4, b5⟩ := h i hi
  rcases Nat.decEq i j with z | z
  · rw [ru_n z, ru_n z, ru_n z]
    refine ⟨b1, b2, b3, b4, fun m hm => ?_⟩
    have q : 4 * i + m ≠ 4 * j + k := by omega
    rw [ru_n q, ru_n q, ru_n q, ru_n q, ru_n q]
    exact b5 m hm
  · subst z
    rw [ru_s, ru_s, ru_s]
    refine ⟨hn, fun _ => ⟨rfl, rfl⟩, fun w => w, by omega, fun m hm => ?_⟩
    rcases Nat.decEq m k with q | q
    · have q' : 4 * i + m ≠ 4 * i + k := by omega
      rw [ru_n q', ru_n q', ru_n q', ru_n q', ru_n q']
      exact b5 m (by omega)
    · subst q
      rw [ru_s, ru_s, ru_s, ru_s, ru_s]
      exact ⟨rfl, he, by omega, by omega, by omega⟩
/-- the same, where X's slot isn't written -/
theorem rl_phZ {j k e : Nat} (h : (rq_P pc ph pa pe pt se ls mo N)) (hj : j < 8) (hk : k < 4) (hkc : k ≤ pc j) : (rq_P (ru_p pc j k) (ru_p ph j 0) (ru_p pa j 0) pe pt (ru_p se (4 * j + k) e) (ru_p ls (4 * j + k) 0) (ru_p mo (4 * j + k) 0) N) := by
  intro i hi
  obtain ⟨b1, b2, b3, b4, b5⟩ := h i hi
  rcases Nat.decEq i j with z | z
  · rw [ru_n z, ru_n z, ru_n z]
    refine ⟨b1, b2, b3, b4, fun m hm => ?_⟩
    have q : 4 * i + m ≠ 4 * j + k := by omega
    rw [ru_n q, ru_n q, ru_n q]
    exact b5 m hm
  · subst z
    rw [ru_s, ru_s, ru_s]
    refine ⟨by omega, fun _ => ⟨rfl, rfl⟩, fun w => w, by omega, fun m hm => ?_⟩
    have q' : 4 * i + m ≠ 4 * i + k := by omega
    rw [ru_n q', ru_n q', ru_n q']
    exact b5 m (by omega)
theorem rx_phA (post : Int32 → SX → Prop) {j k e t : Nat} (I : (rq_L ln fm tt le li rk we op mk wd wn pc ph pa pe pt se ls mo tp ac sz dw st ty ed fr sp go tk en ch ps pg cf ct la gr cr ne nl oe ol fl tl tn N)) (hj : j < 8) (hk : k < 4) (hkc : k ≤ pc j) (he : e < 65536) (ht : t = 0 ∨ (0 < t ∧ t ≤ 9999 ∧ 1 ≤ t % 100 ∧ t % 100 ≤ t / 100)) (h : wX_phase_85 post (nI j) (nI k) (nI e) (nI t) (nI tn) (rn_A ln) (rn_A fm) (rn_A tt) (rn_A le) (rn_A li) (rn_A rk) (rn_A we) (rn_A op) (rn_A ca) (rn_A mk) (rn_B wd) (rn_B wn) (rn_A pc) (rn_A ph) (rn_A pa) (rn_A pe) (rn_A pt) (rn_A tp) (rn_A ac) (rn_A sz) (rn_A dw) (rn_A st) (rn_A ty) (rn_A ed) (rn_B ps) (rn_A fr) (rn_A sp) (rn_A go) (rn_A nz) (rn_B pg) (rn_B cf) (rn_B ct) (rn_A tk) (rn_A en) (rn_B ch) (rn_A nw) (rn_A tl)) : wpX_phase post (nI tn, rn_A ln, rn_A fm, rn_A tt, rn_A le, rn_A li, rn_A rk, rn_A we, rn_A op, rn_A ca, rn_A mk, rn_B wd, rn_B wn, rn_A pc, rn_A ph, rn_A pa, rn_A pe, rn_A pt, rn_A tp, rn_A ac, rn_A sz, rn_A dw, rn_A st, rn_A ty, rn_A ed, rn_B ps, rn_A fr, rn_A sp, rn_A go, rn_A nz, rn_B pg, rn_B cf, rn_B ct, rn_A tk, rn_A en, rn_B ch, rn_A nw, rn_A tl) (nI j) (nI k) (nI e) (nI t) := by
  have P := (I.2.2.1 j hj).1
  refine br_f (nI_pos (by omega)) (br_f (nI_ge (b := 8) hj (by decide)) (br_f (nI_pos (by omega)) (br_f (nI_ge (b := 4) hk (by decide)) ⟨pk_in j 8 hj, pk_le k (pc j) (fun _ => br_f (nI_pos (by omega)) (br_t (nI_le (b := 65535) (by omega) (by decide)) ?_)) (fun z => by omega) rfl (rn_rA (by omega))⟩)))
  rcases ht with z | ⟨z1, z2, z3, z4⟩
  · subst z; exact br_t rfl h
  · obtain ⟨b1, b2⟩ := rn_100 (t := t) (by omega)
    rw [b1, b2]
    exact br_f (nI_ne0 z1 (by omega)) (br_f (nI_pos (by omega)) (br_f (nI_nlt (a := 9999) z2 (by decide)) ⟨by decide, br_f (nI_nlt (b := 1) z3 (by omega)) ⟨by decide, by decide, br_t (nI_le z4 (by omega)) h⟩⟩))
theorem ry_phA (post : Int32 → SY → Prop) {j k e t : Nat} (I : (rq_L ln fm tt le li rk we op mk wd wn pc ph pa pe pt se ls mo tp ac sz dw st ty ed fr sp go tk en ch ps pg cf ct la gr cr ne nl oe ol fl tl tn N)) (hj : j < 8) (hk : k < 4) (hkc : k ≤ pc j) (he : e < 65536) (ht : t = 0 ∨ (0 < t ∧ t ≤ 9999 ∧ 1 ≤ t % 100 ∧ t % 100 ≤ t / 100)) (h : wY_phase_87 post (nI j) (nI k) (nI e) (nI t) (nI (t % 100)) (nI (t / 100)) (nI kn) (nI tn) th (rn_T ln) (rn_A op) (rn_A fm) (rn_A tt) (rn_A le) (rn_A ln) (rn_A li) (rn_A rk) (rn_A we) (rn_A ca) (rn_A mk) (rn_A fa) (rn_A tp) (rn_A ac) (rn_A sz) (rn_A dw) (rn_A st) (rn_A ty) (rn_A ed) (rn_A la) (rn_A fr) (rn_A sp) (rn_A go) (rn_A nz) (rn_A tk) (rn_C ch) (rn_A en) (rn_A nw) (rn_A gr) (rn_A cr) (rn_A ne) (rn_A nl) (rn_A oe) (rn_A ol) (rn_A fl) (rn_A pc) (rn_A ph) (rn_A pa) (rn_A se) (rn_A ls) (rn_A mo) (rn_A tl) gp fs) : wpY_phase post (nI kn, nI tn, th, rn_T ln, rn_A op, rn_A fm, rn_A tt, rn_A le, rn_A ln, rn_A li, rn_A rk, rn_A we, rn_A ca, rn_A mk, rn_A fa, rn_A tp, rn_A ac, rn_A sz, rn_A dw, rn_A st, rn_A ty, rn_A ed, rn_A la, rn_A fr, rn_A sp, rn_A go, rn_A nz, rn_A tk, rn_C ch, rn_A en, rn_A nw, rn_A gr, rn_A cr, rn_A ne, rn_A nl, rn_A oe, rn_A ol, rn_A fl, rn_A pc, rn_A ph, rn_A pa, rn_A se, rn_A ls, rn_A mo, rn_A tl, gp, fs) (nI j) (nI k) (nI e) (nI t) := by
  have P := (I.2.2.1 j hj).1
  have t1 : t ≤ 9999 := by omega
  obtain ⟨b1, b2⟩ := rn_100 (t := t) (by omega)
  unfold wpY_phase
  refine ry_in _ _ _ _ (rb_b (fun w => absurd ⟨nI_pos (by omega), nI_nlt (a := 7) (b := j) (by omega) (by decide)⟩ w) (fun _ => ry_in _ _ _ _ (rb_b (fun w => absurd ⟨nI_pos (by omega), nI_nlt (a := 3) (b := k) (by omega) (by decide)⟩ w) (fun _ => ⟨pk_in j 8 hj, pk_lt (pc j) k (fun z => by omega) (fun _ => ?_) (rn_rA (by omega))⟩))))
  refine ry_in _ _ _ _ (rb_b (fun w => absurd ⟨nI_pos (by omega), nI_nlt (a := 65535) (b := e) (by omega) (by decide)⟩ w) (fun _ => ⟨by decide, nm_r b1 ⟨by decide, nm_r b2 ?_⟩⟩))
  rcases ht with z | ⟨z1, z2, z3, z4⟩
  · subst z; exact br_t rfl h
  · exact br_f (nI_ne0 z1 (by omega)) (ry_in _ _ _ _ (rb_b (fun w => absurd ⟨nI_pos (by omega), nI_nlt (a := 9999) z2 (by decide)⟩ w) (fun _ => br_f (nI_nlt (b := 1) z3 (by omega)) (br_t (nI_le z4 (by omega)) h))))
theorem rx_151 (post : Int32 → SX → Prop) {j : Nat} (hj : j < 8) (h : post 1 (nI tn, rn_A ln, rn_A fm, rn_A tt, rn_A le, rn_A li, rn_A rk, rn_A we, rn_A op, rn_A ca, rn_A mk, rn_B wd, rn_B wn, rn_A pc, rn_A (ru_p ph j 0), rn_A (ru_p pa j 0), rn_A pe, rn_A pt, rn_A tp, rn_A ac, rn_A sz, rn_A dw, rn_A st, rn_A ty, rn_A ed, rn_B ps, rn_A fr, rn_A sp, rn_A go, rn_A nz, rn_B pg, rn_B cf, rn_B ct, rn_A tk, rn_A en, rn_B ch, rn_A nw, rn_A tl)) : wX_phase_151 post (nI j) (nI tn) (rn_A ln) (rn_A fm) (rn_A tt) (rn_A le) (rn_A li) (rn_A rk) (rn_A we) (rn_A op) (rn_A ca) (rn_A mk) (rn_B wd) (rn_B wn) (rn_A pc) (rn_A ph) (rn_A pa) (rn_A pe) (rn_A pt) (rn_A tp) (rn_A ac) (rn_A sz) (rn_A dw) (rn_A st) (rn_A ty) (rn_A ed) (rn_B ps) (rn_A fr) (rn_A sp) (rn_A go) (rn_A nz) (rn_B pg) (rn_B cf) (rn_B ct) (rn_A tk) (rn_A en) (rn_B ch) (rn_A nw) (rn_A tl) :=
  ⟨pk_in j 8 hj, nm_r (rn_uA (x := 0) (by omega)) ⟨pk_in j 8 hj, nm_r (rn_uA (x := 0) (by omega)) h⟩⟩
theorem ry_157 (post : Int32 → SY → Prop) {j : Nat} (hj : j < 8) (h : post 1 (nI kn, nI tn, th, rn_T ln, rn_A op, rn_A fm, rn_A tt, rn_A le, rn_A ln, rn_A li, rn_A rk, rn_A we, rn_A ca, rn_A mk, rn_A fa, rn_A tp, rn_A ac, rn_A sz, rn_A dw, rn_A st, rn_A ty, rn_A ed, rn_A la, rn_A fr, rn_A sp, rn_A go, rn_A nz, rn_A tk, rn_C ch, rn_A en, rn_A nw, rn_A gr, rn_A cr, rn_A ne, rn_A nl, rn_A oe, rn_A ol, rn_A fl, rn_A pc, rn_A (ru_p ph j 0), rn_A (ru_p pa j 0), rn_A se, rn_A ls, rn_A mo, rn_A tl, gp, fs)) : wY_phase_157 post (nI j) (nI kn) (nI tn) th (rn_T ln) (rn_A op) (rn_A fm) (rn_A tt) (rn_A le) (rn_A ln) (rn_A li) (rn_A rk) (rn_A we) (rn_A ca) (rn_A mk) (rn_A fa) (rn_A tp) (rn_A ac) (rn_A sz) (rn_A dw) (rn_A st) (rn_A ty) (rn_A ed) (rn_A la) (rn_A fr) (rn_A sp) (rn_A go) (rn_A nz) (rn_A tk) (rn_C ch) (rn_A en) (rn_A nw) (rn_A gr) (rn_A cr) (rn_A ne) (rn_A nl) (rn_A oe) (rn_A ol) (rn_A fl) (rn_A pc) (rn_A ph) (rn_A pa) (rn_A se) (rn_A ls) (rn_A mo) (rn_A tl) gp fs :=
  ⟨pk_in j 8 hj, nm_r (rn_uA (x := 0) (by omega)) ⟨pk_in j 8 hj, nm_r (rn_uA (x := 0) (by omega)) h⟩⟩
end
theorem i_vc_phase {k : Nat} {u : SX} {v : SY} (I : i_Rel k u v) (hk : k + 5 ≤ 2560) (v1 : Int32) (v2 : Int32) (v3 : Int32) (v4 : Int32) : wpX_phase (fun r u' => wpY_phase (fun r' v' => r' = r ∧ i_Rel (k + 5) u' v') v v1 v2 v3 v4) u v1 v2 v3 v4 := by
  obtain ⟨ln, fm, tt, le, li, rk, we, op, ca, mk, wd, wn, fa, pc, ph, pa, pe, pt, se, ls, mo, tp, ac, sz, dw, st, ty, ed, fr, sp, go, nz, tk, en, ch, nw, ps, pg, cf, ct, la, gr, cr, ne, nl, oe, ol, fl, tl, tn, kn, N, th, gp, fs, rfl, rfl, I, hW, hN, hT⟩ := I
  rcases Classical.em (ra_ph pc v1 v2 v3 v4) with ⟨j, m, e, t, rfl, hj, rfl, hm, hmc, rfl, he, rfl, ht⟩ | hn
  · have P := (I.1.2.2.1 j hj).1
    have ij : vp_in (nI j) 8 := pk_in j 8 hj
    have ix : (4 : Int32) * nI j + nI m = nI (4 * j + m) := by rw [show (4 : Int32) * nI j = nI (4 * j) from pk_mul 4 _, nI_add]
    have is : vp_in (nI (4 * j + m)) 32 := vp_in_nI (by omega) (by omega)
    have pr : rn_A pc (nI j).toNatClampNeg = nI (pc j) := rn_rA (by omega)
    refine rx_phA _ I.1 hj hm hmc he ht ?_
    unfold wX_phase_85
    rw [ix, pr]
    rcases Nat.eq_zero_or_pos t with z | z
    · subst z
      refine br_t rfl ⟨ij, nm_r (rn_uA (by omega)) (rx_151 _ hj (ry_phA _ I.1 hj hm hmc he ht ?_))⟩
      unfold wY_phase_87
      rw [ix, pr]
      refine ⟨is, nm_r (rn_uA (by omega)) ⟨is, nm_r (rn_uA (x := 0) (by omega)) ⟨is, nm_r (rn_uA (x := 0) (by omega)) (br_t rfl ⟨ij, nm_r (rn_uA (by omega)) (ry_157 _ hj ⟨rfl, ?_⟩)⟩)⟩⟩⟩
      exact rl_rel ⟨⟨I.1.1, I.1.2.1, rl_phZ I.1.2.2.1 hj hm hmc, I.1.2.2.2⟩, I.2⟩ hW (by omega) (by omega)
    · refine br_f (nI_ne0 z (by omega)) ⟨is, nm_r (rn_uA (by omega)) ⟨is, nm_r (rn_uA (by omega)) ⟨ij, ?_⟩⟩⟩
      have fin : ∀ n, n ≤ 4 → (n = m ∨ (m < n ∧ (n = m + 1 ∨ n = pc j))) → i_Rel (k + 5) (nI tn, rn_A ln, rn_A fm, rn_A tt, rn_A le, rn_A li, rn_A rk, rn_A we, rn_A op, rn_A ca, rn_A mk, rn_B wd, rn_B wn, rn_A (ru_p pc j n), rn_A (ru_p ph j 0), rn_A (ru_p pa j 0), rn_A (ru_p pe (4 * j + m) e), rn_A (ru_p pt (4 * j + m) t), rn_A tp, rn_A ac, rn_A sz, rn_A dw, rn_A st, rn_A ty, rn_A ed, rn_B ps, rn_A fr, rn_A sp, rn_A go, rn_A nz, rn_B pg, rn_B cf, rn_B ct, rn_A tk, rn_A en, rn_B ch, rn_A nw, rn_A tl) (nI kn, nI tn, th, rn_T ln, rn_A op, rn_A fm, rn_A tt, rn_A le, rn_A ln, rn_A li, rn_A rk, rn_A we, rn_A ca, rn_A mk, rn_A fa, rn_A tp, rn_A ac, rn_A sz, rn_A dw, rn_A st, rn_A ty, rn_A ed, rn_A la, rn_A fr, rn_A sp, rn_A go, rn_A nz, rn_A tk, rn_C ch, rn_A en, rn_A nw, rn_A gr, rn_A cr, rn_A ne, rn_A nl, rn_A oe, rn_A ol, rn_A fl, rn_A (ru_p pc j n), rn_A (ru_p ph j 0), rn_A (ru_p pa j 0), rn_A (ru_p se (4 * j + m) e), rn_A (ru_p ls (4 * j + m) (t % 100)), rn_A (ru_p mo (4 * j + m) (t / 100)), rn_A tl, gp, fs) := fun n h1 h2 => rl_rel ⟨⟨I.1.1, I.1.2.1, rl_phP I.1.2.2.1 hj hm hmc he (by omega) h1 h2, I.1.2.2.2⟩, I.2⟩ hW (by omega) (by omega)
      refine pk_eq m (pc j) (fun q => ⟨ij, nm_r (e' := rn_A (ru_p pc j (m + 1))) (by rw [nI_1]; exact rn_uA (by omega)) (rx_151 _ hj (ry_phA _ I.1 hj hm hmc he ht ?_))⟩) (fun q => ⟨ij, ij, nm_r (e' := rn_A (ru_p pc j (pc j))) (rn_uA (by omega)) (rx_151 _ hj (ry_phA _ I.1 hj hm hmc he ht ?_))⟩)
      · unfold wY_phase_87
        rw [ix, pr]
        refine ⟨is, nm_r (rn_uA (by omega)) ⟨is, nm_r (rn_uA (by omega)) ⟨is, nm_r (rn_uA (by omega)) (br_f (nI_ne0 z (by omega)) ⟨ij, br_t (by rw [q]) ⟨ij, ij, nm_r (e' := rn_A (ru_p pc j (m + 1))) (by rw [nI_1, q]; exact rn_uA (by omega)) (ry_157 _ hj ⟨rfl, fin _ (by omega) (by omega)⟩)⟩⟩)⟩⟩⟩
      · unfold wY_phase_87
        rw [ix, pr]
        have f2 := fin (pc j) P (by omega)
        rw [ru_id] at f2 ⊢
        refine ⟨is, nm_r (rn_uA (by omega)) ⟨is, nm_r (rn_uA (by omega)) ⟨is, nm_r (rn_uA (by omega)) (br_f (nI_ne0 z (by omega)) ⟨ij, br_f (fun w => q ((nI_eq (by omega) (by omega)).mp w)) (ry_157 _ hj ⟨rfl, f2⟩)⟩)⟩⟩⟩
  · exact rx_phN _ I.1 hn (ry_phN _ I.1 hn ⟨rfl, rl_rel I hW (by omega) (by omega)⟩)
