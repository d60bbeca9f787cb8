section
variable {lm pn wp sr sc se fl sp pt sg el rs sn wy ya vv vt ot ra br : Int32} {en oc : Int64} {it le pe op kd nu co cl ap rd si bg ct ls hd hk hc vl tk cn lf la pc yb yh yk ho vs os : Nat → Int32}
variable {bg' ct' ls' hd' hk' hc' lf' la' pc' yb' yh' yk' ho' : Nat → Int32} {S L m q s sgn k : Nat} {g e r b : Nat → Nat} {x y : Int32}
theorem rn_apx {p : Nat} (hL : L ≤ 150) (hp : p ≤ L) (hv : vp_in x 8) (hx : x.toNatClampNeg = s) (hE : rl_Ex co cl tk cn s) (w z : Int32) :
    (∃ (oe : Int64) (p' : Nat) (fl' vv' vt' ot' br' : Int32) (ap' vl' vs' os' : Nat → Int32), oe ≠ 0 ∧
      (∀ post : Int32 → SX → Prop, post 0 (nI L, pn, wp, sr, sc, se, fl', nI p', oe, pt, sg, el, rs, sn, it, le, pe, op, kd, nu, co, cl, ap', rd, si, bg, ct, ls, hd, hk, hc, vl') → wpX_applies post (nI L, pn, wp, sr, sc, se, fl, nI p, en, pt, sg, el, rs, sn, it, le, pe, op, kd, nu, co, cl, ap, rd, si, bg, ct, ls, hd, hk, hc, vl) x w z) ∧
      (∀ post : Int32 → SY → Prop, post 0 (nI L, sr, sc, wy, nI p', ya, se, fl', vv', vt', ot', ra, br', oe, it, le, tk, cn, kd, nu, lf, la, pc, yb, yh, yk, ho, ap', rd, si, vs', os') → wpY_apply post (nI L, sr, sc, wy, nI p, ya, se, fl, vv, vt, ot, ra, br, oc, it, le, tk, cn, kd, nu, lf, la, pc, yb, yh, yk, ho, ap, rd, si, vs, os) x w z)) ∨
    (p < L ∧ ∃ (v vt' ot' br' : Int32) (vl' vs' os' : Nat → Int32),
      (∀ post : Int32 → SX → Prop, post 1 (nI L, pn, wp, sr, sc, se, fl, nI (p + 1), en, pt, sg, el, v, sn, it, le, pe, op, kd, nu, co, cl, upd ap s (ap s + 1), rd, si, bg, ct, ls, hd, hk, hc, vl') → wpX_applies post (nI L, pn, wp, sr, sc, se, fl, nI p, en, pt, sg, el, rs, sn, it, le, pe, op, kd, nu, co, cl, ap, rd, si, bg, ct, ls, hd, hk, hc, vl) x w z) ∧
      (∀ post : Int32 → SY → Prop, post 1 (nI L, sr, sc, wy, nI (p + 1), ya, se, fl, v, vt', ot', ra, br', oc, it, le, tk, cn, kd, nu, lf, la, pc, yb, yh, yk, ho, upd ap s (ap s + 1), rd, si, vs', os') → wpY_apply post (nI L, sr, sc, wy, nI p, ya, se, fl, vv, vt, ot, ra, br, oc, it, le, tk, cn, kd, nu, lf, la, pc, yb, yh, yk, ho, ap, rd, si, vs, os) x w z)) := by
  obtain ⟨j, hj, rfl⟩ := vp_in_of hv (by omega)
  rw [nI_clamp (by omega)] at hx
  subst hx
  exact rn_ap hL hp hj hE w z
theorem as_7 (hkd : ∀ t, t < S → (kd t).toNatClampNeg ≤ 16) (hS : S ≤ 8) (hL : L ≤ 150) (hs : s < S) (hv : vp_in x 8) (hx : x.toNatClampNeg = s) (h : dd_D S L m le kd nu g e r b 0 (s + 1) q sn ya bg ct ls hd hk hc lf la pc yb yh yk ho) (hk0 : kd s = nI 7) (hE : rl_Ex co cl tk cn s) : ∃ (act : Int32) (u1 : SX) (v1 : SY), (∀ post : SX → Prop, post u1 → wpX_stageAsked post (nI L, pn, wp, nI m, nI S, se, fl, nI q, 0, nI s, 0, el, rs, sn, it, le, pe, op, kd, nu, co, cl, ap, rd, si, bg, ct, ls, hd, hk, hc, vl) x) ∧ (∀ post : Int32 → SY → Prop, post act v1 → wpY_asked post (nI L, nI m, nI S, wy, nI q, ya, se, fl, vv, vt, ot, ra, br, oc, it, le, tk, cn, kd, nu, lf, la, pc, yb, yh, yk, ho, ap, rd, si, vs, os) x) ∧ rr_N pn wp se wy ra it le pe op kd nu co cl si tk cn L S m (rn_P S g b 0 (s + 1)) (s + 1) act u1 v1 := by
  have hT := dd_get h hs hk0 (by omega)
  obtain ⟨hT1, hT2⟩ : ct s = lf s ∧ (¬ ct s = 0 → ls s = la s) := hT
  have hkc : (kd s).toNatClampNeg = 7 := by rw [hk0]; exact nI_clamp (by omega)
  by_cases hc1 : ct s = 0
  · refine as_ask hkd hS hL hs hv hx h hk0 (by omega) (fun z => absurd z (by simp [rn_cl])) (fun post hp => ?_) (fun post hp => ?_)
    all_goals subst hx
    · exact ⟨hv, nm_r hk0 (br_f (by decide) (br_f (by decide) (br_f (by decide) (br_f (by decide) (br_f (by decide) (br_f (by decide) (br_f (by decide) (br_t rfl (⟨hv, br_t hc1 (xr_ask hp)⟩)))))))))⟩
    · exact ⟨hv, nm_r hk0 (br_f (by decide) (br_f (by decide) (br_f (by decide) (br_f (by decide) (br_f (by decide) (br_f (by decide) (br_f (by decide) (br_t rfl (⟨hv, br_t (by rw [← hT1]; exact hc1) hp⟩)))))))))⟩
  · rcases rn_apx (pn := pn) (wp := wp) (se := se) (fl := fl) (el := el) (rs := rs) (sn := sn) (it := it) (le := le) (pe := pe) (op := op) (kd := kd) (nu := nu) (co := co) (cl := cl) (ap := ap) (rd := rd) (si := si) (bg := bg) (ct := ct) (ls := ls) (hd := hd) (hk := hk) (hc := hc) (vl := vl) (wy := wy) (ya := ya) (vv := vv) (vt := vt) (ot := ot) (ra := ra) (br := br) (oc := oc) (tk := tk) (cn := cn) (la := la) (pc := pc) (yb := yb) (yh := yh) (yk := yk) (ho := ho) (vs := vs) (os := os) (sr := nI m) (sc := nI S) (en := 0) (pt := nI s) (sg := 0) (lf := upd lf s (lf s - 1)) hL h.1 hv hx hE (ls s) 0 with ⟨oe, p', fl', vv', vt', ot', br', ap', vl', vs', os', w1, w2, w3⟩ | ⟨hq, v, vt', ot', br', vl', vs', os', w2, w3⟩
    · refine ⟨3, (nI L, pn, wp, nI m, nI S, se, fl', nI p', oe, nI s, 0, el, rs, sn, it, le, pe, op, kd, nu, co, cl, ap', rd, si, bg, ct, ls, hd, hk, hc, vl'), (nI L, nI m, nI S, wy, nI p', ya, se, fl', vv', vt', ot', ra, br', oe, it, le, tk, cn, kd, nu, upd lf s (lf s - 1), la, pc, yb, yh, yk, ho, ap', rd, si, vs', os'), fun post hp => ?_, fun post hp => ?_, md_out w1⟩
      · subst hx
        exact ⟨hv, nm_r hk0 (br_f (by decide) (br_f (by decide) (br_f (by decide) (br_f (by decide) (br_f (by decide) (br_f (by decide) (br_f (by decide) (br_t rfl (⟨hv, br_f hc1 ⟨hv, w2 _ (br_t rfl hp)⟩⟩)))))))))⟩
      · subst hx
        rw [hT2 hc1] at w3
        exact ⟨hv, nm_r hk0 (br_f (by decide) (br_f (by decide) (br_f (by decide) (br_f (by decide) (br_f (by decide) (br_f (by decide) (br_f (by decide) (br_t rfl (⟨hv, br_f (by rw [← hT1]; exact hc1) ⟨hv, hv, nm_e ⟨hv, w3 _ (br_t rfl hp)⟩⟩⟩)))))))))⟩
    · refine ⟨1, (nI L, pn, wp, nI m, nI S, se, fl, nI (q + 1), 0, nI (s + 1), 1, v, v, sn, it, le, pe, op, kd, nu, co, cl, upd ap s (ap s + 1), rd, si, bg, upd ct s (ct s - 1), upd ls s v, hd, hk, hc, vl'), (nI L, nI m, nI S, wy, nI (q + 1), ya, se, fl, v, vt', ot', ra, br', oc, it, le, tk, cn, kd, nu, upd lf s (lf s - 1), upd la s v, pc, yb, yh, yk, ho, upd ap s (ap s + 1), rd, si, vs', os'), fun post hp => ?_, fun post hp => ?_, md_pay v hkd hS hs h (k := 7) (r1 := r s) ⟨fun t ht => by simp [pk_un ht], fun i hi => ⟨rfl, rfl⟩, fun i hi => ⟨rfl, rfl⟩⟩ (Or.inl rfl) (Or.inl (Nat.le_refl _)) (Nat.le_refl _) (by omega) hkc (fun P' hP => ?_)⟩
      · subst hx
        exact ⟨hv, nm_r hk0 (br_f (by decide) (br_f (by decide) (br_f (by decide) (br_f (by decide) (br_f (by decide) (br_f (by decide) (br_f (by decide) (br_t rfl (⟨hv, br_f hc1 ⟨hv, w2 _ (br_f (by decide) ⟨hv, hv, nm_e ⟨hv, nm_e (xr_give hp)⟩⟩)⟩⟩)))))))))⟩
      · subst hx
        rw [hT2 hc1] at w3
        exact ⟨hv, nm_r hk0 (br_f (by decide) (br_f (by decide) (br_f (by decide) (br_f (by decide) (br_f (by decide) (br_f (by decide) (br_f (by decide) (br_t rfl (⟨hv, br_f (by rw [← hT1]; exact hc1) ⟨hv, hv, nm_e ⟨hv, w3 _ (br_f (by decide) ⟨hv, nm_e hp⟩)⟩⟩⟩)))))))))⟩
      · show upd ct s (ct s - 1) s = upd lf s (lf s - 1) s ∧ (_ → upd ls s v s = upd la s v s)
        rw [pk_us, pk_us, pk_us, pk_us, hT1]
        exact ⟨rfl, fun _ => rfl⟩
theorem zl_eq {mm n : Nat} (h1 : nu s = nI mm) (h2 : mm < 3) (h3 : le mm = nI n) (h4 : n ≤ 24) : rn_zl le nu s = n := by
  unfold rn_zl
  rw [h1, nI_clamp (by omega), h3, nI_clamp (by omega)]
/-- THEN once its stage below has ended -/
theorem th_in (hkd : ∀ t, t < S → (kd t).toNatClampNeg ≤ 16) (hS : S ≤ 8) (hL : L ≤ 150) (hs : s < S) (hv : vp_in x 8) (hx : x.toNatClampNeg = s) (h : dd_D S L m le kd nu g e r b 0 (s + 1) q sn ya bg ct ls hd hk hc lf la pc yb yh yk ho) (hk0 : kd s = nI 9) (hb : b s = 1) {mm n : Nat} (hmm : mm < 3) (hn : n ≤ 24) (hnu : nu s = nI mm) (hle : le mm = nI n) :
    ∃ (act : Int32) (u1 : SX) (v1 : SY), (∀ post : SX → Prop, post u1 → wpX_stageAsked post (nI L, pn, wp, nI m, nI S, se, fl, nI q, 0, nI s, 0, el, rs, sn, it, le, pe, op, kd, nu, co, cl, ap, rd, si, bg, ct, ls, hd, hk, hc, vl) x) ∧ (∀ post : Int32 → SY → Prop, post act v1 → wpY_fetch post (nI L, nI m, nI S, wy, nI q, ya, se, fl, vv, vt, ot, ra, br, oc, it, le, tk, cn, kd, nu, lf, la, upd pc s (pc s + 1), yb, yh, yk, ho, ap, rd, si, vs, os) (nu s) (pc s)) ∧ rr_N pn wp se wy ra it le pe op kd nu co cl si tk cn L S m (rn_P S g b 0 (s + 1)) (s + 1) act u1 v1 := by
  have hT := dd_get h hs hk0 (by omega)
  have hkc : (kd s).toNatClampNeg = 9 := by rw [hk0]; exact nI_clamp (by omega)
  have hPb := dd_bound hS hL (by omega) h
  obtain ⟨hbb, j, hj, hyp, _, hxc⟩ := hT
  have hxc := hxc hb
  rw [zl_eq hnu hmm hle hn] at hxc
  have hxb : bg s = 1 := by rcases hbb.2 with ⟨z, _⟩ | ⟨_, z⟩; omega; exact z
  have hx1 : ¬ bg s = 0 := by rw [hxb]; decide
  have hmi : vp_in (nI mm) 3 := vp_in_nI hmm (by omega)
  have hmc : (nI mm).toNatClampNeg = mm := nI_clamp (by omega)
  have hlm : le (nI mm).toNatClampNeg = nI n := by rw [hmc]; exact hle
  have hy1 : pc s + 1 = nI (j + 1) := by rw [hyp, nI_1]
  by_cases hjn : j < n
  · have hmin : min j n = j := Nat.min_eq_left (by omega)
    rw [hmin] at hxc
    have hlt : ct s < nI n := by rw [hxc]; exact nI_lt hjn (by omega)
    by_cases hq : q < L
    · refine ⟨1, (nI L, pn, wp, nI m, nI S, se, fl, nI (q + 1), 0, nI (s + 1), 1, it (24 * mm + j), it (24 * mm + j), sn, it, le, pe, op, kd, nu, co, cl, ap, upd rd mm (rd mm + 1), si, bg, upd ct s (ct s + 1), ls, hd, hk, hc, vl), (nI L, nI m, nI S, wy, nI (q + 1), ya, se, fl, it (24 * mm + j), vt, ot, ra, br, oc, it, le, tk, cn, kd, nu, lf, la, upd pc s (pc s + 1), yb, yh, yk, ho, ap, upd rd mm (rd mm + 1), si, vs, os), fun post hp => ?_, fun post hp => ?_, md_pay _ hkd hS hs h (k := 9) (r1 := r s) ⟨fun t ht => by simp [pk_un ht], fun i hi => ⟨rfl, rfl⟩, fun i hi => ⟨rfl, rfl⟩⟩ (Or.inl rfl) (Or.inl (Nat.le_refl _)) (Nat.le_refl _) (by omega) hkc (fun P' hP => ?_)⟩
      · subst hx
        refine ⟨hv, nm_r hk0 (br_f (by decide) (br_f (by decide) (br_f (by decide) (br_f (by decide) (br_f (by decide) (br_f (by decide) (br_f (by decide) (br_f (by decide) (br_f (by decide) (br_t rfl (⟨hv, nm_r hnu ⟨hv, br_f hx1 ⟨hv, hmi, br_t (by rw [hlm]; exact hlt) ⟨hv, ?_⟩⟩⟩⟩)))))))))))⟩
        rw [hxc]
        refine xr_rd1 hL hq hmm (by omega) ?_
        exact br_f (by decide) ⟨hv, hv, nm_r (by rw [hxc]) (xr_give hp)⟩
      · rw [hnu, hyp]
        rw [hyp] at hp
        exact yr_ft1 hL hq hmm hn hle hjn hp
      · refine ⟨hbb, j + 1, by omega, by rw [pk_us]; exact hy1, fun z => absurd z (by omega), fun _ => ?_⟩
        rw [pk_us, hxc, nI_1, zl_eq hnu hmm hle hn, Nat.min_eq_left (by omega)]
    · have : L = q := by have := h.1; omega
      subst this
      refine ⟨3, (nI L, pn, wp, nI m, nI S, se, fl, nI L, 9000000000000000001, nI s, 0, el, rs, sn, it, le, pe, op, kd, nu, co, cl, ap, rd, si, bg, ct, ls, hd, hk, hc, vl), (nI L, nI m, nI S, wy, nI L, ya, se, fl, vv, vt, ot, ra, br, 9000000000000000001, it, le, tk, cn, kd, nu, lf, la, upd pc s (pc s + 1), yb, yh, yk, ho, ap, rd, si, vs, os), fun post hp => ?_, fun post hp => ?_, md_out (oe := 9000000000000000001) (by decide)⟩
      · subst hx
        refine ⟨hv, nm_r hk0 (br_f (by decide) (br_f (by decide) (br_f (by decide) (br_f (by decide) (br_f (by decide) (br_f (by decide) (br_f (by decide) (br_f (by decide) (br_f (by decide) (br_t rfl (⟨hv, nm_r hnu ⟨hv, br_f hx1 ⟨hv, hmi, br_t (by rw [hlm]; exact hlt) ⟨hv, xr_rd0 ?_⟩⟩⟩⟩)))))))))))⟩
        exact br_t rfl hp
      · rw [hnu, hyp]
        rw [hyp] at hp
        exact yr_ft0 hmm hn hle hjn hp
  · have hmin : min j n = n := Nat.min_eq_right (by omega)
    rw [hmin] at hxc
    have hlt : ¬ ct s < nI n := by rw [hxc]; exact Int32.lt_irrefl
    refine ⟨0, (nI L, pn, wp, nI m, nI S, se, fl, nI q, 0, nI (s + 1), 2, el, rs, sn, it, le, pe, op, kd, nu, co, cl, ap, rd, si, bg, ct, ls, hd, hk, hc, vl), (nI L, nI m, nI S, wy, nI q, ya, se, fl, vv, vt, ot, ra, br, oc, it, le, tk, cn, kd, nu, lf, la, upd pc s (pc s + 1), yb, yh, yk, ho, ap, rd, si, vs, os), fun post hp => ?_, fun post hp => ?_, md_end hkd hS hs h (k := 9) ⟨fun t ht => by simp [pk_un ht], fun i hi => ⟨rfl, rfl⟩, fun i hi => ⟨rfl, rfl⟩⟩ (Or.inl rfl) (Nat.le_refl _) h.1 hkc (fun P' hP => ?_)⟩
    · subst hx
      exact ⟨hv, nm_r hk0 (br_f (by decide) (br_f (by decide) (br_f (by decide) (br_f (by decide) (br_f (by decide) (br_f (by decide) (br_f (by decide) (br_f (by decide) (br_f (by decide) (br_t rfl (⟨hv, nm_r hnu ⟨hv, br_f hx1 ⟨hv, hmi, br_f (by rw [hlm]; exact hlt) (xr_end hp)⟩⟩⟩)))))))))))⟩
    · rw [hnu, hyp]
      rw [hyp] at hp
      exact yr_ftE hmm hn hle (by omega) (by omega) hp
    · refine ⟨hbb, j + 1, by omega, by rw [pk_us]; exact hy1, fun z => absurd z (by omega), fun _ => ?_⟩
      rw [hxc, zl_eq hnu hmm hle hn, Nat.min_eq_right (by omega)]
theorem as_9 (hkd : ∀ t, t < S → (kd t).toNatClampNeg ≤ 16) (hS : S ≤ 8) (hL : L ≤ 150) (hs : s < S) (hv : vp_in x 8) (hx : x.toNatClampNeg = s) (h : dd_D S L m le kd nu g e r b 0 (s + 1) q sn ya bg ct ls hd hk hc lf la pc yb yh yk ho) (hk0 : kd s = nI 9) {mm n : Nat} (hmm : mm < 3) (hn : n ≤ 24) (hnu : nu s = nI mm) (hle : le mm = nI n) : ∃ (act : Int32) (u1 : SX) (v1 : SY), (∀ post : SX → Prop, post u1 → wpX_stageAsked post (nI L, pn, wp, nI m, nI S, se, fl, nI q, 0, nI s, 0, el, rs, sn, it, le, pe, op, kd, nu, co, cl, ap, rd, si, bg, ct, ls, hd, hk, hc, vl) x) ∧ (∀ post : Int32 → SY → Prop, post act v1 → wpY_asked post (nI L, nI m, nI S, wy, nI q, ya, se, fl, vv, vt, ot, ra, br, oc, it, le, tk, cn, kd, nu, lf, la, pc, yb, yh, yk, ho, ap, rd, si, vs, os) x) ∧ rr_N pn wp se wy ra it le pe op kd nu co cl si tk cn L S m (rn_P S g b 0 (s + 1)) (s + 1) act u1 v1 := by
  have hT := dd_get h hs hk0 (by omega)
  obtain ⟨hbb, _⟩ := hT
  rcases hbb.2 with ⟨b0, x0⟩ | ⟨b1, x1⟩
  · refine as_ask hkd hS hL hs hv hx h hk0 (by omega) (fun z => b0) (fun post hp => ?_) (fun post hp => ?_)
    all_goals subst hx
    · exact ⟨hv, nm_r hk0 (br_f (by decide) (br_f (by decide) (br_f (by decide) (br_f (by decide) (br_f (by decide) (br_f (by decide) (br_f (by decide) (br_f (by decide) (br_f (by decide) (br_t rfl (⟨hv, nm_e ⟨hv, br_t x0 (xr_ask hp)⟩⟩)))))))))))⟩
    · exact ⟨hv, nm_r hk0 (br_f (by decide) (br_f (by decide) (br_f (by decide) (br_f (by decide) (br_f (by decide) (br_f (by decide) (br_f (by decide) (br_f (by decide) (br_f (by decide) (br_t rfl (⟨hv, br_t (by rw [← hbb.1]; exact x0) hp⟩)))))))))))⟩
  · obtain ⟨act, u1, v1, w1, w2, w3⟩ := th_in (pn := pn) (wp := wp) (se := se) (fl := fl) (el := el) (rs := rs) (sn := sn) (it := it) (le := le) (pe := pe) (op := op) (kd := kd) (nu := nu) (co := co) (cl := cl) (ap := ap) (rd := rd) (si := si) (bg := bg) (ct := ct) (ls := ls) (hd := hd) (hk := hk) (hc := hc) (vl := vl) (wy := wy) (ya := ya) (vv := vv) (vt := vt) (ot := ot) (ra := ra) (br := br) (oc := oc) (tk := tk) (cn := cn) (lf := lf) (la := la) (pc := pc) (yb := yb) (yh := yh) (yk := yk) (ho := ho) (vs := vs) (os := os) hkd hS hL hs hv hx h hk0 b1 hmm hn hnu hle
    refine ⟨act, u1, v1, w1, fun post hp => ?_, w3⟩
    subst hx
    exact ⟨hv, nm_r hk0 (br_f (by decide) (br_f (by decide) (br_f (by decide) (br_f (by decide) (br_f (by decide) (br_f (by decide) (br_f (by decide) (br_f (by decide) (br_f (by decide) (br_t rfl (⟨hv, br_f (by rw [← hbb.1, x1]; decide) ⟨hv, hv, hv, nm_e (w2 _ (sy_eta hp))⟩⟩)))))))))))⟩
end
