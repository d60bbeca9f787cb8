def pt_cz (t : Int32) : Nat := if t = 0 then 0 else 1
def pt_tz (t : Int32) : Prop := t = 0 ∨ ex_tok t
theorem xr_tz10 {post : Int32 → Prop} {t : Int32} (h1 : 1000 ≤ t ∧ t ≤ 100999 → post 1) (h0 : ¬ (1000 ≤ t ∧ t ≤ 100999) → post 0) : wX_isTokenOrZero_10 post t :=
  br_c (fun a => h0 (fun z => Int32.lt_irrefl (Int32.lt_of_lt_of_le a z.1))) (fun a => br_c (fun b => h0 (fun z => Int32.lt_irrefl (Int32.lt_of_lt_of_le b z.2))) (fun b => h1 ⟨Int32.not_lt.mp a, Int32.not_lt.mp b⟩))
theorem yr_tz11 {post : Int32 → Prop} {t : Int32} (h1 : 1000 ≤ t ∧ t ≤ 100999 → post 1) (h0 : ¬ (1000 ≤ t ∧ t ≤ 100999) → post 0) : wY_token_11 post t :=
  br_c (fun a => h0 (fun z => Int32.lt_irrefl (Int32.lt_of_lt_of_le a z.1))) (fun a => br_c (fun b => h0 (fun z => Int32.lt_irrefl (Int32.lt_of_lt_of_le b z.2))) (fun b => h1 ⟨Int32.not_lt.mp a, Int32.not_lt.mp b⟩))
theorem pt_1 {t : Int32} (h : ¬ t < 1) : 1 ≤ t := Int32.not_lt.mp h
theorem pt_01 {t : Int32} (h : ¬ t < 0) (h0 : ¬ t = 0) : 1 ≤ t := by
  obtain ⟨j, hj, rfl⟩ := nI_of h
  have : j ≠ 0 := by rintro rfl; exact h0 rfl
  rw [show (1 : Int32) = nI 1 from rfl, nI_leI (by omega) (by omega)]; omega
theorem xr_tz {post : Int32 → Prop} {t : Int32} (h1 : pt_tz t → post 1) (h0 : ¬ pt_tz t → post 0) : wpX_isTokenOrZero post t := by
  have hlt : ∀ {a : Int32}, t < a → 0 ≤ t → True := fun _ _ => trivial
  refine br_c (fun a => ?_) (fun a => br_c (fun b => ?_) (fun b => ?_))
  · refine xr_tz10 (fun z => h1 (Or.inr (Or.inr z))) (fun z => h0 ?_)
    rintro (rfl | ⟨c, _⟩ | c)
    · exact absurd a (by decide)
    · exact Int32.lt_irrefl (Int32.lt_of_lt_of_le a (Int32.le_trans (by decide : (0 : Int32) ≤ 1) c))
    · exact z c
  · by_cases e : t = 0
    · exact h1 (Or.inl e)
    · exact h1 (Or.inr (Or.inl ⟨pt_01 a e, b⟩))
  · refine xr_tz10 (fun z => h1 (Or.inr (Or.inr z))) (fun z => h0 ?_)
    rintro (rfl | ⟨_, c⟩ | c)
    · exact absurd (by decide) b
    · exact b c
    · exact z c
theorem yr_tz {post : Int32 → Prop} {t : Int32} (hn : ¬ t = 0) (h1 : pt_tz t → post 1) (h0 : ¬ pt_tz t → post 0) : wpY_token post t := by
  refine br_c (fun a => ?_) (fun a => br_c (fun b => ?_) (fun b => ?_))
  · refine yr_tz11 (fun z => h1 (Or.inr (Or.inr z))) (fun z => h0 ?_)
    rintro (c | ⟨c, _⟩ | c)
    · exact hn c
    · exact Int32.lt_irrefl (Int32.lt_of_lt_of_le a c)
    · exact z c
  · exact h1 (Or.inr (Or.inl ⟨pt_1 a, b⟩))
  · refine yr_tz11 (fun z => h1 (Or.inr (Or.inr z))) (fun z => h0 ?_)
    rintro (c | ⟨_, c⟩ | c)
    · exact hn c
    · exact b c
    · exact z c
section
variable {lm pn wp sr sc se fl sp pt sg el rs sn wy ya vv vt ot ra br : Int32} {en oc : Int64} {it le pe op kd nu co cl ap rd si bg ct ls hd hk hc vl tk cn lf la pc yb yh yk ho vs os : Nat → Int32}
variable {py : Int32}
theorem pt_add (t : Int32) (ht : pt_tz t) (np : Nat) (hnp : np + pt_cz t ≤ 16) (hcn : cn 0 = nI np) (hv : ∀ i, i < np → pe i = tk i ∧ ex_tok (tk i)) :
    ∃ pe' tk' cn' : Nat → Int32, cn' 0 = nI (np + pt_cz t) ∧ (∀ i, i < np + pt_cz t → pe' i = tk' i ∧ ex_tok (tk' i)) ∧ (∀ i, 16 ≤ i → tk' i = tk i) ∧ (∀ i, i ≠ 0 → cn' i = cn i) ∧
      (∀ post : SX → Prop, post (lm, nI (np + pt_cz t), wp, sr, sc, se, fl, sp, en, pt, sg, el, rs, sn, it, le, pe', op, kd, nu, co, cl, ap, rd, si, bg, ct, ls, hd, hk, hc, vl) → wpX_addToken post (lm, nI np, wp, sr, sc, se, fl, sp, en, pt, sg, el, rs, sn, it, le, pe, op, kd, nu, co, cl, ap, rd, si, bg, ct, ls, hd, hk, hc, vl) t) ∧ (∀ post : SY → Prop, post (lm, sr, sc, wy, py, ya, se, fl, vv, vt, ot, ra, br, oc, it, le, tk', cn', kd, nu, lf, la, pc, yb, yh, yk, ho, ap, rd, si, vs, os) → wpY_add post (lm, sr, sc, wy, py, ya, se, fl, vv, vt, ot, ra, br, oc, it, le, tk, cn, kd, nu, lf, la, pc, yb, yh, yk, ho, ap, rd, si, vs, os) t) := by
  unfold pt_cz at *
  by_cases h0 : t = 0
  · rw [if_pos h0] at *
    exact ⟨pe, tk, cn, hcn, hv, fun _ _ => rfl, fun _ _ => rfl, fun post h => br_t h0 h, fun post h => br_t h0 h⟩
  · rw [if_neg h0] at *
    have hn : np < 16 := by omega
    refine ⟨upd pe np t, upd tk np t, upd cn 0 (nI (np + 1)), pk_us, ?_, fun i hi => pk_un (by omega), fun i hi => pk_un hi, fun post h => ?_, fun post h => ?_⟩
    · intro i hi
      by_cases e : i = np
      · subst e
        rw [pk_us, pk_us]
        exact ⟨rfl, ht.resolve_left h0⟩
      · rw [pk_un e, pk_un e]
        exact hv i (by omega)
    · refine br_f h0 (br_f (nI_ge (b := 16) hn (by decide)) ⟨vp_in_nI hn (by omega), nm_r (by rw [nI_clamp (by omega)]) (nm_r (nI_1 _) h)⟩)
    · refine br_f h0 (nm_r (by rw [hcn, nI_1]) ⟨?_, nm_r (e' := upd tk np t) ?_ h⟩)
      · rw [hcn]; exact vp_in_nI (by omega) (by omega)
      · rw [hcn, nI_clamp (by omega)]
end
theorem rl_S_fr {sc : Int32} {kd nu co cl tk cn tk' cn' : Nat → Int32} (h : rl_S sc kd nu co cl tk cn) (h1 : ∀ i, 16 ≤ i → tk' i = tk i) (h2 : ∀ i, i ≠ 0 → cn' i = cn i) : rl_S sc kd nu co cl tk' cn' := by
  obtain ⟨S, a, b, c⟩ := h
  refine ⟨S, a, b, fun s hs => ?_⟩
  obtain ⟨k, d1, d2, d3, d4⟩ := c s hs
  refine ⟨k, d1, d2, d3, fun hx => ?_⟩
  obtain ⟨tq, N, e1, e2, e3, e4, e5, e6⟩ := d4 hx
  exact ⟨tq, N, e1, e2, by rw [h2 _ (by omega)]; exact e3, fun i hi => by rw [h1 _ (by omega)]; exact e4 i hi, e5, e6⟩
theorem pt_ci (t : Int32) (A : Int32 → Prop) (h : A (nI (pt_cz t))) : (t = 0 → A 0) ∧ (¬ t = 0 → A 1) := by
  unfold pt_cz at h
  refine br_c (fun z => ?_) (fun z => ?_)
  · rw [if_pos z] at h; exact h
  · rw [if_neg z] at h; exact h
section
variable {lm pn wp sr sc se fl sp pt sg el rs sn wy ya vv vt ot ra br : Int32} {en oc : Int64} {it le pe op kd nu co cl ap rd si bg ct ls hd hk hc vl tk cn lf la pc yb yh yk ho vs os : Nat → Int32}
theorem xr_put (a b c : Int32) {post : Int32 → SX → Prop} (G : pt_tz a → pt_tz b → pt_tz c → wX_put_51 post a b c (nI (pt_cz c)) (nI (pt_cz a) + nI (pt_cz b)) lm pn wp sr sc se fl sp en pt sg el rs sn it le pe op kd nu co cl ap rd si bg ct ls hd hk hc vl) (B : ¬ (pt_tz a ∧ pt_tz b ∧ pt_tz c) → post (-1) (lm, pn, wp, sr, sc, se, fl, sp, en, pt, sg, el, rs, sn, it, le, pe, op, kd, nu, co, cl, ap, rd, si, bg, ct, ls, hd, hk, hc, vl)) : wpX_put post (lm, pn, wp, sr, sc, se, fl, sp, en, pt, sg, el, rs, sn, it, le, pe, op, kd, nu, co, cl, ap, rd, si, bg, ct, ls, hd, hk, hc, vl) a b c := by
  unfold wpX_put
  refine xr_tz (fun g1 => ?_) (fun z => br_t rfl (B (fun w => z w.1)))
  refine br_f (by decide) ?_
  refine xr_tz (fun g2 => ?_) (fun z => br_t rfl (B (fun w => z w.2.1)))
  refine br_f (by decide) ?_
  refine xr_tz (fun g3 => ?_) (fun z => br_t rfl (B (fun w => z w.2.2)))
  refine br_f (by decide) ?_
  refine pt_ci a (fun z => wX_put_32 post a b c z lm pn wp sr sc se fl sp en pt sg el rs sn it le pe op kd nu co cl ap rd si bg ct ls hd hk hc vl) ?_
  refine pt_ci b (fun z => wX_put_41 post a b c z (nI (pt_cz a)) lm pn wp sr sc se fl sp en pt sg el rs sn it le pe op kd nu co cl ap rd si bg ct ls hd hk hc vl) ?_
  exact pt_ci c (fun z => wX_put_51 post a b c z (nI (pt_cz a) + nI (pt_cz b)) lm pn wp sr sc se fl sp en pt sg el rs sn it le pe op kd nu co cl ap rd si bg ct ls hd hk hc vl) (G g1 g2 g3)
theorem yr_put (a b c : Int32) {post : Int32 → SY → Prop} (G : pt_tz a → pt_tz b → pt_tz c → wY_put_64 post a b c (nI (pt_cz a) + nI (pt_cz b) + nI (pt_cz c)) lm sr sc wy sp ya se fl vv vt ot ra br oc it le tk cn kd nu lf la pc yb yh yk ho ap rd si vs os) (B : ¬ (pt_tz a ∧ pt_tz b ∧ pt_tz c) → post (-1) (lm, sr, sc, wy, sp, ya, se, fl, vv, vt, ot, ra, br, oc, it, le, tk, cn, kd, nu, lf, la, pc, yb, yh, yk, ho, ap, rd, si, vs, os)) : wpY_put post (lm, sr, sc, wy, sp, ya, se, fl, vv, vt, ot, ra, br, oc, it, le, tk, cn, kd, nu, lf, la, pc, yb, yh, yk, ho, ap, rd, si, vs, os) a b c := by
  unfold wpY_put
  have b68 : ¬ (pt_tz a ∧ pt_tz b ∧ pt_tz c) → wY_put_68 post a b c (nI (pt_cz a) + nI (pt_cz b) + nI (pt_cz c)) lm sr sc wy sp ya se fl vv vt ot ra br oc it le tk cn kd nu lf la pc yb yh yk ho ap rd si vs os := fun z => br_t rfl (B z)
  have g53 : pt_tz a → pt_tz b → wY_put_53 post a b c (nI (pt_cz a) + nI (pt_cz b) + nI (pt_cz c)) lm sr sc wy sp ya se fl vv vt ot ra br oc it le tk cn kd nu lf la pc yb yh yk ho ap rd si vs os := fun g1 g2 =>
    br_c (fun e => G g1 g2 (Or.inl e)) (fun hn => yr_tz hn (fun g3 => br_f (by decide) (G g1 g2 g3)) (fun z => br_t rfl (b68 (fun w => z w.2.2))))
  have g42 : pt_tz a → wY_put_42 post a b c (nI (pt_cz a) + nI (pt_cz b) + nI (pt_cz c)) lm sr sc wy sp ya se fl vv vt ot ra br oc it le tk cn kd nu lf la pc yb yh yk ho ap rd si vs os := fun g1 =>
    br_c (fun e => g53 g1 (Or.inl e)) (fun hn => yr_tz hn (fun g2 => br_f (by decide) (g53 g1 g2)) (fun z => br_t rfl (b68 (fun w => z w.2.1))))
  refine pt_ci a (fun z => wY_put_9 post a b c z lm sr sc wy sp ya se fl vv vt ot ra br oc it le tk cn kd nu lf la pc yb yh yk ho ap rd si vs os) ?_
  refine pt_ci b (fun z => wY_put_18 post a b c z (nI (pt_cz a)) lm sr sc wy sp ya se fl vv vt ot ra br oc it le tk cn kd nu lf la pc yb yh yk ho ap rd si vs os) ?_
  refine pt_ci c (fun z => wY_put_28 post a b c z (nI (pt_cz a) + nI (pt_cz b)) lm sr sc wy sp ya se fl vv vt ot ra br oc it le tk cn kd nu lf la pc yb yh yk ho ap rd si vs os) ?_
  exact nm_e (br_c (fun e => g42 (Or.inl e)) (fun hn => yr_tz hn (fun g1 => br_f (by decide) (g42 g1)) (fun z => br_t rfl (b68 (fun w => z w.1)))))
end
theorem i_vc_put {k : Nat} {u : SX} {v : SY} (I : i_Rel k u v) (hk : k + 4 ≤ 2049) (v1 : Int32) (v2 : Int32) (v3 : Int32) : wpX_put (fun r u' => wpY_put (fun r' v' => r' = r ∧ i_Rel (k + 4) u' v') v v1 v2 v3) u v1 v2 v3 := by
  have I' := i_up I
  obtain ⟨lm, pn, wp, sr, sc, se, fl, sp, py, pt, sg, el, rs, sn, ya, vv, vt, ot, ra, br, en, oc, it, le, pe, op, kd, nu, co, cl, ap, rd, si, bg, ct, ls, hd, hk, hc, vl, tk, cn, lf, la, pc, yb, yh, yk, ho, vs, os, rfl, rfl, hM, hP, hSr, hS, hL, hC, hA⟩ := I
  obtain ⟨np, hn1, rfl, hn3, hn4⟩ := hP
  have hz3 : nI (pt_cz v1) + nI (pt_cz v2) + nI (pt_cz v3) = nI (pt_cz v1 + pt_cz v2 + pt_cz v3) := by rw [nI_add, nI_add]
  have hcz : ∀ a : Int32, pt_cz a ≤ 1 := fun a => by unfold pt_cz; split <;> omega
  have c1 := hcz v1
  have c2 := hcz v2
  have c3 := hcz v3
  have hle : nI np + nI (pt_cz v1 + pt_cz v2 + pt_cz v3) ≤ 16 ↔ np + (pt_cz v1 + pt_cz v2 + pt_cz v3) ≤ 16 := by rw [nI_add, show (16 : Int32) = nI 16 from rfl, nI_leI (by omega) (by omega)]
  by_cases hg : (pt_tz v1 ∧ pt_tz v2 ∧ pt_tz v3) ∧ np + (pt_cz v1 + pt_cz v2 + pt_cz v3) ≤ 16
  · obtain ⟨⟨g1, g2, g3⟩, hs⟩ := hg
    obtain ⟨pe1, tk1, cn1, a1, a2, a3, a4, a5, a6⟩ := pt_add (lm := lm) (wp := wp) (sr := sr) (sc := sc) (se := se) (fl := fl) (sp := sp) (en := en) (pt := pt) (sg := sg) (el := el) (rs := rs) (sn := sn) (it := it) (le := le) (pe := pe) (op := op) (kd := kd) (nu := nu) (co := co) (cl := cl) (ap := ap) (rd := rd) (si := si) (bg := bg) (ct := ct) (ls := ls) (hd := hd) (hk := hk) (hc := hc) (vl := vl) (ya := ya) (vv := vv) (vt := vt) (ot := ot) (ra := ra) (br := br) (oc := oc) (tk := tk) (cn := cn) (lf := lf) (la := la) (pc := pc) (yb := yb) (yh := yh) (yk := yk) (ho := ho) (vs := vs) (os := os) (wy := wp) (py := py) v1 g1 np (by omega) hn3 hn4
    obtain ⟨pe2, tk2, cn2, b1, b2, b3, b4, b5, b6⟩ := pt_add (lm := lm) (wp := wp) (sr := sr) (sc := sc) (se := se) (fl := fl) (sp := sp) (en := en) (pt := pt) (sg := sg) (el := el) (rs := rs) (sn := sn) (it := it) (le := le) (op := op) (kd := kd) (nu := nu) (co := co) (cl := cl) (ap := ap) (rd := rd) (si := si) (bg := bg) (ct := ct) (ls := ls) (hd := hd) (hk := hk) (hc := hc) (vl := vl) (ya := ya) (vv := vv) (vt := vt) (ot := ot) (ra := ra) (br := br) (oc := oc) (lf := lf) (la := la) (pc := pc) (yb := yb) (yh := yh) (yk := yk) (ho := ho) (vs := vs) (os := os) (pe := pe1) (tk := tk1) (cn := cn1) (wy := wp) (py := py) v2 g2 _ (by omega) a1 a2
    obtain ⟨pe3, tk3, cn3, d1, d2, d3, d4, d5, d6⟩ := pt_add (lm := lm) (wp := wp) (sr := sr) (sc := sc) (se := se) (fl := fl) (sp := sp) (en := en) (pt := pt) (sg := sg) (el := el) (rs := rs) (sn := sn) (it := it) (le := le) (op := op) (kd := kd) (nu := nu) (co := co) (cl := cl) (ap := ap) (rd := rd) (si := si) (bg := bg) (ct := ct) (ls := ls) (hd := hd) (hk := hk) (hc := hc) (vl := vl) (ya := ya) (vv := vv) (vt := vt) (ot := ot) (ra := ra) (br := br) (oc := oc) (lf := lf) (la := la) (pc := pc) (yb := yb) (yh := yh) (yk := yk) (ho := ho) (vs := vs) (os := os) (pe := pe2) (tk := tk2) (cn := cn2) (wy := wp) (py := py) v3 g3 _ (by omega) b1 b2
    have hX : ∀ post : Int32 → SX → Prop, post (nI (np + pt_cz v1 + pt_cz v2 + pt_cz v3)) (lm, nI (np + pt_cz v1 + pt_cz v2 + pt_cz v3), wp, sr, sc, se, fl, sp, en, pt, sg, el, rs, sn, it, le, pe3, op, kd, nu, co, cl, ap, rd, si, bg, ct, ls, hd, hk, hc, vl) → wpX_put post (lm, nI np, wp, sr, sc, se, fl, sp, en, pt, sg, el, rs, sn, it, le, pe, op, kd, nu, co, cl, ap, rd, si, bg, ct, ls, hd, hk, hc, vl) v1 v2 v3 := fun post h =>
      xr_put v1 v2 v3 (fun _ _ _ => nm_r hz3 (br_t (hle.mpr hs) (a5 _ (b5 _ (d5 _ h))))) (fun z => absurd ⟨g1, g2, g3⟩ z)
    have hY : ∀ post : Int32 → SY → Prop, post (nI (np + pt_cz v1 + pt_cz v2 + pt_cz v3)) (lm, sr, sc, wp, py, ya, se, fl, vv, vt, ot, ra, br, oc, it, le, tk3, cn3, kd, nu, lf, la, pc, yb, yh, yk, ho, ap, rd, si, vs, os) → wpY_put post (lm, sr, sc, wp, py, ya, se, fl, vv, vt, ot, ra, br, oc, it, le, tk, cn, kd, nu, lf, la, pc, yb, yh, yk, ho, ap, rd, si, vs, os) v1 v2 v3 := fun post h => by
      refine yr_put v1 v2 v3 (fun _ _ _ => br_f (by decide) (br_t ?_ (a6 _ (b6 _ (d6 _ ?_))))) (fun z => absurd ⟨g1, g2, g3⟩ z)
      · rw [hn3, hz3]; exact hle.mpr hs
      · show post (cn3 0) _
        rw [d1]; exact h
    refine hX _ (hY _ ⟨rfl, ?_⟩)
    exact rl_mk _ hM ⟨_, by omega, rfl, d1, d2⟩ hSr (rl_S_fr hS (fun i hi => by rw [d3 i hi, b3 i hi, a3 i hi]) (fun i hi => by rw [d4 i hi, b4 i hi, a4 i hi])) hL hC hA
  · have hX : ∀ post : Int32 → SX → Prop, post (-1) (lm, nI np, wp, sr, sc, se, fl, sp, en, pt, sg, el, rs, sn, it, le, pe, op, kd, nu, co, cl, ap, rd, si, bg, ct, ls, hd, hk, hc, vl) → wpX_put post (lm, nI np, wp, sr, sc, se, fl, sp, en, pt, sg, el, rs, sn, it, le, pe, op, kd, nu, co, cl, ap, rd, si, bg, ct, ls, hd, hk, hc, vl) v1 v2 v3 := fun post h =>
      xr_put v1 v2 v3 (fun g1 g2 g3 => nm_r hz3 (br_f (fun z => hg ⟨⟨g1, g2, g3⟩, hle.mp z⟩) h)) (fun _ => h)
    have hY : ∀ post : Int32 → SY → Prop, post (-1) (lm, sr, sc, wp, py, ya, se, fl, vv, vt, ot, ra, br, oc, it, le, tk, cn, kd, nu, lf, la, pc, yb, yh, yk, ho, ap, rd, si, vs, os) → wpY_put post (lm, sr, sc, wp, py, ya, se, fl, vv, vt, ot, ra, br, oc, it, le, tk, cn, kd, nu, lf, la, pc, yb, yh, yk, ho, ap, rd, si, vs, os) v1 v2 v3 := fun post h => by
      refine yr_put v1 v2 v3 (fun g1 g2 g3 => br_f (by decide) (br_f ?_ h)) (fun _ => h)
      rw [hn3, hz3]; exact fun z => hg ⟨⟨g1, g2, g3⟩, hle.mp z⟩
    exact hX _ (hY _ ⟨rfl, I'⟩)
