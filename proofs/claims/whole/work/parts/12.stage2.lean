theorem st_hA {ra : Int32} {ap rd : Nat → Int32} (h : rl_A ra ap rd) : rl_A ra ap rd := h
theorem st_P0 {pe tk cn : Nat → Int32} : rl_P 0 pe tk (upd cn 0 0) := ⟨0, by omega, rfl, pk_us, fun i hi => absurd hi (by omega)⟩
theorem st_S0 {sc : Int32} {kd nu co cl tk cn : Nat → Int32} (h : rl_S sc kd nu co cl tk cn) : rl_S sc kd nu co cl tk (upd cn 0 0) := rl_S_fr h (fun _ _ => rfl) (fun _ hi => pk_un hi)
theorem i_vc_stage {k : Nat} {u : SX} {v : SY} (I : i_Rel k u v) (hk : k + 4 ≤ 2049) (v1 : Int32) (v2 : Int32) : wpX_stage (fun r u' => wpY_stage (fun r' v' => r' = r ∧ i_Rel (k + 4) u' v') v v1 v2) u v1 v2 := by
  obtain ⟨lm, pn, wp, sr, sc, se, fl, sp, py, pt, sg, el, rs, sn, ya, vv, vt, ot, ra, br, en, oc, it, le, pe, op, kd, nu, co, cl, ap, rd, si, bg, ct, ls, hd, hk, hc, vl, tk, cn, lf, la, pc, yb, yh, yk, ho, vs, os, rfl, rfl, hM, hP, hSr, hS, hL, hC, hA⟩ := I
  obtain ⟨np, hn1, rfl, hn3, hn4⟩ := hP
  have hS' := hS
  obtain ⟨S, hS1, rfl, hS2⟩ := hS
  by_cases hgood : (¬ v1 < 0 ∧ ¬ 16 < v1) ∧ st_gd v1 v2
  · obtain ⟨⟨ha, hb⟩, hg⟩ := hgood
    by_cases h8 : S = 8
    · subst h8
      have hX : ∀ post : Int32 → SX → Prop, post (-2) (lm, 0, -1, sr, nI 8, se, fl, sp, en, pt, sg, el, rs, sn, it, le, pe, op, kd, nu, co, cl, ap, rd, si, bg, ct, ls, hd, hk, hc, vl) → wpX_stage post (lm, nI np, wp, sr, nI 8, se, fl, sp, en, pt, sg, el, rs, sn, it, le, pe, op, kd, nu, co, cl, ap, rd, si, bg, ct, ls, hd, hk, hc, vl) v1 v2 := fun post h =>
        br_f ha (br_f hb (xr_num (fun _ => br_f (by decide) (br_f (by decide) h)) (fun z => absurd hg z)))
      have hY : ∀ post : Int32 → SY → Prop, post (-2) (lm, sr, nI 8, -1, py, ya, se, fl, vv, vt, ot, ra, br, oc, it, le, tk, upd cn 0 0, kd, nu, lf, la, pc, yb, yh, yk, ho, ap, rd, si, vs, upd os 0 0) → wpY_stage post (lm, sr, nI 8, wp, py, ya, se, fl, vv, vt, ot, ra, br, oc, it, le, tk, cn, kd, nu, lf, la, pc, yb, yh, yk, ho, ap, rd, si, vs, os) v1 v2 := fun post h =>
        yr_num (fun _ => nm_e (br_f ha (br_f hb (br_f (by decide) (br_t rfl (br_t (by decide) (nm_e h))))))) (fun z => absurd hg z)
      exact hX _ (hY _ ⟨rfl, rl_mk _ hM st_P0 hSr (st_S0 hS') hL hC hA⟩)
    · have hS8 : S < 8 := by omega
      obtain ⟨q, hq, rfl⟩ := nI_of2 (M := 16) (n := 16) (by decide) ha (Int32.not_lt.mp hb)
      have hlt8 : nI S < 8 := nI_lt (b := 8) hS8 (by decide)
      have hne8 : ¬ nI S = 8 := by rw [show (8 : Int32) = nI 8 from rfl, nI_eq (by omega) (by omega)]; exact h8
      obtain ⟨res, os', g1, g2, g3⟩ := st_find (lm := lm) (sr := sr) (se := se) (fl := fl) (sp := sp) (en := en) (pt := pt) (sg := sg) (el := el) (rs := rs) (sn := sn) (it := it) (le := le) (pe := pe) (op := op) (kd := kd) (nu := nu) (co := co) (cl := cl) (ap := ap) (rd := rd) (si := si) (bg := bg) (ct := ct) (ls := ls) (hd := hd) (hk := hk) (hc := hc) (vl := vl) (ya := ya) (vv := vv) (vt := vt) (ot := ot) (ra := ra) (br := br) (oc := oc) (tk := tk) (cn := cn) (lf := lf) (la := la) (pc := pc) (yb := yb) (yh := yh) (yk := yk) (ho := ho) (vs := vs) (py := py) (pn := 0) (wp := -1) (sc := nI S) (wy := -1) (os := upd os 0 0) q hq np hn1 hn3 hn4 pk_us
      rcases g1 with ⟨rfl, hw, hz⟩ | hres
      · -- the stage is taken
        have hl : ∀ i, i < np → ex_leg (tk i) (ex_cs tk i).1 (ex_cs tk i).2.1 := by
          cases hx : rl_hx q with
          | true => exact (hw hx).1
          | false => intro i hi; have := hz hx; omega
        have hlay0 : ex_lay co (16 * S) (ex_cs tk 0).2.2 := by intro i t h; simp [ex_cs] at h
        obtain ⟨op', co', cl', t1, t2, t3, t4, t5⟩ := xr_trans (lm := lm) (sr := sr) (se := se) (fl := fl) (sp := sp) (en := en) (pt := pt) (sg := sg) (el := el) (rs := rs) (sn := sn) (it := it) (le := le) (pe := pe) (ap := ap) (rd := rd) (si := si) (bg := bg) (ct := ct) (ls := ls) (hd := hd) (hk := hk) (hc := hc) (vl := vl) (pn := 0) (wp := -1) (sc := nI S) (kd := upd kd S (nI q)) (nu := upd nu S v2) S hS8 tk np hn1 (fun i hi => (hn4 i hi).1) hl np 0 (by omega) op co (upd cl S 0) trivial hlay0 (by rw [pk_us]; rfl)
        obtain ⟨tk2, y1, y2, y3⟩ := st_copy (lm := lm) (sr := sr) (ya := ya) (se := se) (fl := fl) (vv := vv) (vt := vt) (ot := ot) (ra := ra) (br := br) (oc := oc) (it := it) (le := le) (kd := kd) (nu := nu) (lf := lf) (la := la) (pc := pc) (yb := yb) (yh := yh) (yk := yk) (ho := ho) (ap := ap) (rd := rd) (si := si) (vs := vs) (cn := cn) (sp := py) (wy := -1) (os := os') S hS8 np hn1 hn3 (nI q) v2 tk np 0 (by omega) tk (fun j hj => absurd hj (by omega)) (fun _ _ => rfl)
        have hcS : (nI S).toNatClampNeg = S := nI_clamp (by omega)
        have hiS : vp_in (nI S) 8 := vp_in_nI hS8 (by omega)
        have hX : ∀ post : Int32 → SX → Prop, post (nI (S + 1)) (lm, 0, -1, sr, nI (S + 1), se, fl, sp, en, pt, sg, el, rs, sn, it, le, pe, op', upd kd S (nI q), upd nu S v2, co', cl', ap, rd, si, bg, ct, ls, hd, hk, hc, vl) → wpX_stage post (lm, nI np, wp, sr, nI S, se, fl, sp, en, pt, sg, el, rs, sn, it, le, pe, op, kd, nu, co, cl, ap, rd, si, bg, ct, ls, hd, hk, hc, vl) (nI q) v2 := fun post h => by
          refine br_f ha (br_f hb (xr_num (fun _ => br_f (by decide) (br_t hlt8 (g2 _ ?_))) (fun z => absurd hg z)))
          refine br_t (by decide) ⟨hiS, nm_r (e' := upd kd S (nI q)) (by rw [hcS]) ⟨hiS, nm_r (e' := upd nu S v2) (by rw [hcS]) ⟨hiS, nm_r (e' := upd cl S 0) (by rw [hcS]) ⟨_, t5 _ _ (Nat.lt_succ_self _) (nm_r (nI_1 _) h)⟩⟩⟩⟩
        have hY : ∀ post : Int32 → SY → Prop, post (nI (S + 1)) (lm, sr, nI (S + 1), -1, py, ya, se, fl, vv, vt, ot, ra, br, oc, it, le, tk2, upd (upd cn (S + 1) (nI np)) 0 0, upd kd S (nI q), upd nu S v2, lf, la, pc, yb, yh, yk, ho, ap, rd, si, vs, os') → wpY_stage post (lm, sr, nI S, wp, py, ya, se, fl, vv, vt, ot, ra, br, oc, it, le, tk, cn, kd, nu, lf, la, pc, yb, yh, yk, ho, ap, rd, si, vs, os) (nI q) v2 := fun post h => by
          refine yr_num (fun _ => nm_e (br_f ha (br_f hb (br_f (by decide) (br_f hne8 (g3 post v2 _ ?_)))))) (fun z => absurd hg z)
          rw [nI_1]
          exact br_t (by decide) (br_f (nI_nle (by omega) (by omega)) ⟨_, y3 post _ (Nat.lt_succ_self _) h⟩)
        refine hX _ (hY _ ⟨rfl, rl_mk _ hM st_P0 hSr ⟨S + 1, by omega, rfl, fun s hs => ?_⟩ hL hC hA⟩)
        have hcn' : ∀ i, i ≠ 0 → i ≠ S + 1 → upd (upd cn (S + 1) (nI np)) 0 0 i = cn i := fun i h1 h2 => by rw [pk_un h1, pk_un h2]
        by_cases e : s = S
        · subst e
          refine ⟨q, hq, pk_us, fun h => ?_, fun hx => ?_⟩
          · rw [pk_us]
            refine hg.2 ?_
            rcases h with rfl | rfl | rfl
            · exact Or.inl rfl
            · exact Or.inr (Or.inl rfl)
            · exact Or.inr (Or.inr rfl)
          · exact ⟨tk, np, hn1, hw hx, by rw [pk_un (by omega), pk_us], y1, t1, t2⟩
        · obtain ⟨k2, d1, d2, d3, d4⟩ := hS2 s (by omega)
          refine ⟨k2, d1, by rw [pk_un e]; exact d2, fun h => by rw [pk_un e]; exact d3 h, fun hx => ?_⟩
          obtain ⟨tq, N, e1, e2, e3, e4, e5, e6⟩ := d4 hx
          have hlen : (ex_code tq N).length ≤ 16 := by
            have := (ex_fin e2).2.2.2.2
            simp at this
            omega
          refine ⟨tq, N, e1, e2, by rw [hcn' _ (by omega) (by omega)]; exact e3, fun i hi => by rw [y2 _ (by omega)]; exact e4 i hi, fun i t ht => ?_, by rw [t4 s e, pk_un e]; exact e6⟩
          have hi := (List.getElem?_eq_some_iff.mp ht).1
          rw [t3 _ (by omega)]
          exact e5 i t ht
      · have hX : ∀ post : Int32 → SX → Prop, post (-3) (lm, 0, res, sr, nI S, se, fl, sp, en, pt, sg, el, rs, sn, it, le, pe, op, kd, nu, co, cl, ap, rd, si, bg, ct, ls, hd, hk, hc, vl) → wpX_stage post (lm, nI np, wp, sr, nI S, se, fl, sp, en, pt, sg, el, rs, sn, it, le, pe, op, kd, nu, co, cl, ap, rd, si, bg, ct, ls, hd, hk, hc, vl) (nI q) v2 := fun post h =>
          br_f ha (br_f hb (xr_num (fun _ => br_f (by decide) (br_t hlt8 (g2 _ (br_f hres h)))) (fun z => absurd hg z)))
        have hY : ∀ post : Int32 → SY → Prop, post (-3) (lm, sr, nI S, res, py, ya, se, fl, vv, vt, ot, ra, br, oc, it, le, tk, upd cn 0 0, kd, nu, lf, la, pc, yb, yh, yk, ho, ap, rd, si, vs, os') → wpY_stage post (lm, sr, nI S, wp, py, ya, se, fl, vv, vt, ot, ra, br, oc, it, le, tk, cn, kd, nu, lf, la, pc, yb, yh, yk, ho, ap, rd, si, vs, os) (nI q) v2 := fun post h =>
          yr_num (fun _ => nm_e (br_f ha (br_f hb (br_f (by decide) (br_f hne8 (g3 post v2 _ (br_f hres (br_t (by decide) (nm_e h))))))))) (fun z => absurd hg z)
        exact hX _ (hY _ ⟨rfl, rl_mk _ hM st_P0 hSr (st_S0 hS') hL hC hA⟩)
  · have hX : ∀ post : Int32 → SX → Prop, post (-1) (lm, 0, -1, sr, nI S, se, fl, sp, en, pt, sg, el, rs, sn, it, le, pe, op, kd, nu, co, cl, ap, rd, si, bg, ct, ls, hd, hk, hc, vl) → wpX_stage post (lm, nI np, wp, sr, nI S, se, fl, sp, en, pt, sg, el, rs, sn, it, le, pe, op, kd, nu, co, cl, ap, rd, si, bg, ct, ls, hd, hk, hc, vl) v1 v2 := fun post h =>
      br_c (fun _ => h) (fun ha => br_c (fun _ => h) (fun hb => xr_num (fun hg => absurd ⟨⟨ha, hb⟩, hg⟩ hgood) (fun _ => br_t rfl h)))
    have hY : ∀ post : Int32 → SY → Prop, post (-1) (lm, sr, nI S, -1, py, ya, se, fl, vv, vt, ot, ra, br, oc, it, le, tk, upd cn 0 0, kd, nu, lf, la, pc, yb, yh, yk, ho, ap, rd, si, vs, upd os 0 0) → wpY_stage post (lm, sr, nI S, wp, py, ya, se, fl, vv, vt, ot, ra, br, oc, it, le, tk, cn, kd, nu, lf, la, pc, yb, yh, yk, ho, ap, rd, si, vs, os) v1 v2 := fun post h => by
      have h94 : wY_stage_94 post v1 v2 lm sr (nI S) (-1) py ya se fl vv vt ot ra br oc it le tk cn kd nu lf la pc yb yh yk ho ap rd si vs (upd os 0 0) := br_t (by decide) (nm_e h)
      exact yr_num (fun hg => nm_e (br_c (fun _ => h94) (fun ha => br_c (fun _ => h94) (fun hb => absurd ⟨⟨ha, hb⟩, hg⟩ hgood)))) (fun _ => nm_e (br_c (fun _ => h94) (fun _ => br_c (fun _ => h94) (fun _ => br_t rfl h94))))
    exact hX _ (hY _ ⟨rfl, rl_mk _ hM st_P0 hSr (st_S0 hS') hL hC hA⟩)
