def ny_a (sgn : Nat) : Int32 := if sgn = 0 then 2 else if sgn = 1 then 1 else 0
def ny_d (sgn : Nat) : Int32 := if sgn = 0 then 1 else 0
def nx_o (o : Int32) : Int32 := if o = 1 then 1 else 0
section
variable {lm pn wp sr sc se fl sp pt sg el rs sn wy ya vv vt ot ra br : Int32} {en oc : Int64} {it le pe op kd nu co cl ap rd si bg ct ls hd hk hc vl tk cn lf la pc yb yh yk ho vs os : Nat → Int32}
variable {bg' ct' ls' hd' hk' hc' lf' la' pc' yb' yh' yk' ho' : Nat → Int32} {S L m q s sgn k : Nat} {g e r b : Nat → Nat} {x y : Int32}
theorem nx_out {u : SX} {v : SY} (h : ro_O pn wp se wy ra it le pe op kd nu co cl si tk cn L S m u v) (post : Int32 → SX → Prop) (nf : Nat) (t : Int32) (hp : post 0 u) : nx_W post (nf + 1) t u := by
  obtain ⟨q, oe, fl, pt, sg, el, rs, sn, ya, vv, vt, ot, br, ap, rd, bg, ct, ls, hd, hk, hc, lf, la, pc, yb, yh, yk, ho, vl, vs, os, h1, rfl, rfl⟩ := h
  have h112 : wX_nextComes_112 post (nI L) pn wp (nI m) (nI S) se fl (nI q) oe pt sg el rs sn it le pe op kd nu co cl ap rd si bg ct ls hd hk hc vl := br_f h1 hp
  exact br_c (fun _ => h112) (fun _ => br_c (fun _ => h112) (fun _ => br_f h1 h112))
def pl_Q (pn wp se wy ra : Int32) (it le pe op kd nu co cl si tk cn : Nat → Int32) (L S m P d sgn p : Nat) (u : SX) (v : SY) : Prop :=
  ∃ (o : Int32) (u' : SX) (v' : SY), ((o = 3 ∧ ro_O pn wp se wy ra it le pe op kd nu co cl si tk cn L S m u' v') ∨ (∃ P' : Nat, P ≤ P' ∧ ((o = 1 ∧ rr_R pn wp se wy ra it le pe op kd nu co cl si tk cn L S m 1 (S + 1) P' u' v') ∨ (o = 0 ∧ rr_R pn wp se wy ra it le pe op kd nu co cl si tk cn L S m 2 (S + 1) P' u' v')))) ∧
    (∀ (post : Int32 → SX → Prop) (nf t : Nat), d < nf → t ≤ P → post (nx_o o) u' → nx_W post nf (nI t) u) ∧ (∀ (post : Int32 → SY → Prop) (nf : Nat), d < nf → post o v' → ny_W post nf (rn_aI p) (ny_a sgn) (ny_d sgn) v)
theorem rr_bound {P p : Nat} {u : SX} {v : SY} (hS : S ≤ 8) (hL : L ≤ 150) (hp : p ≤ S + 1) (h : rr_R pn wp se wy ra it le pe op kd nu co cl si tk cn L S m sgn p P u v) : P < 90000 := by
  obtain ⟨q, g, e, r, b, fl, el, rs, sn, ya, vv, vt, ot, br, oc, ap, rd, bg, ct, ls, hd, hk, hc, lf, la, pc, yb, yh, yk, ho, vl, vs, os, rfl, rfl, h1, rfl, h2⟩ := h
  exact dd_bound hS hL hp h2
theorem pl_go {P P1 d kx sgn : Nat} {u : SX} {v : SY} (IH : ∀ d', d' < d → ∀ (P sgn p : Nat) (u : SX) (v : SY), 100000 ≤ P + d' → rr_R pn wp se wy ra it le pe op kd nu co cl si tk cn L S m sgn p P u v → sgn ≤ 2 → p ≤ S + 1 → (sgn = 0 → p ≤ S) → (sgn ≠ 0 → 1 ≤ p) → pl_Q pn wp se wy ra it le pe op kd nu co cl si tk cn L S m P d' sgn p u v)
    (hPd : 100000 ≤ P + d) (hP : P < 90000) (hs : s < S) (act : Int32) (u1 : SX) (v1 : SY) (hk1 : 1 ≤ kx) (hk2 : kx ≤ 2) (hP1 : P + kx ≤ P1 + 1)
    (hX : ∀ (post : Int32 → SX → Prop) (nf t : Nat), t + kx ≤ 1000000 → nx_W post nf (nI (t + kx)) u1 → nx_W post (nf + kx) (nI t) u) (hY : ∀ (post : Int32 → SY → Prop) (nf : Nat), ny_A post nf s act v1 → ny_W post (nf + 1) (nI s) (ny_a sgn) (ny_d sgn) v)
    (hN : rr_N pn wp se wy ra it le pe op kd nu co cl si tk cn L S m P1 (s + 1) act u1 v1) : pl_Q pn wp se wy ra it le pe op kd nu co cl si tk cn L S m P d sgn (s + 1) u v := by
  rcases hN with ⟨rfl, ho⟩ | ⟨P', hP', hN⟩
  · refine ⟨3, u1, v1, Or.inl ⟨rfl, ho⟩, fun post nf t hf ht hp => ?_, fun post nf hf hp => ?_⟩
    · obtain ⟨f, rfl⟩ : ∃ f, nf = f + 1 + kx := ⟨nf - 1 - kx, by omega⟩
      exact hX post (f + 1) t (by omega) (nx_out ho post f _ hp)
    · obtain ⟨f, rfl⟩ : ∃ f, nf = f + 1 := ⟨nf - 1, by omega⟩
      exact hY post f (Or.inl ⟨rfl, hp⟩)
  · have fin : ∀ (sg2 p2 : Nat), (∀ (post : Int32 → SY → Prop) (nf : Nat), ny_W post nf (rn_aI p2) (ny_a sg2) (ny_d sg2) v1 → ny_A post nf s act v1) → pl_Q pn wp se wy ra it le pe op kd nu co cl si tk cn L S m P' (d - kx) sg2 p2 u1 v1 → pl_Q pn wp se wy ra it le pe op kd nu co cl si tk cn L S m P d sgn (s + 1) u v := by
      rintro sg2 p2 hA ⟨o, u', v', hr, gx, gy⟩
      refine ⟨o, u', v', ?_, fun post nf t hf ht hp => ?_, fun post nf hf hp => ?_⟩
      · rcases hr with hr | ⟨P2, a, c⟩
        · exact Or.inl hr
        · exact Or.inr ⟨P2, by omega, c⟩
      · obtain ⟨f, rfl⟩ : ∃ f, nf = f + kx := ⟨nf - kx, by omega⟩
        exact hX post f t (by omega) (gx post f (t + kx) (by omega) (by omega) hp)
      · obtain ⟨f, rfl⟩ : ∃ f, nf = f + 1 := ⟨nf - 1, by omega⟩
        exact hY post f (hA post f (gy post f (by omega) hp))
    rcases hN with ⟨rfl, _, hR⟩ | ⟨rfl, hR⟩ | ⟨rfl, hR⟩
    · exact fin 0 s (fun post nf z => Or.inr (Or.inl ⟨rfl, z⟩)) (IH (d - kx) (by omega) P' 0 s u1 v1 (by omega) hR (by omega) (by omega) (fun _ => by omega) (fun z => absurd rfl z))
    · exact fin 1 (s + 2) (fun post nf z => Or.inr (Or.inr ⟨Or.inr rfl, z⟩)) (IH (d - kx) (by omega) P' 1 (s + 2) u1 v1 (by omega) hR (by omega) (by omega) (fun z => absurd z (by omega)) (fun _ => by omega))
    · exact fin 2 (s + 2) (fun post nf z => Or.inr (Or.inr ⟨Or.inl rfl, z⟩)) (IH (d - kx) (by omega) P' 2 (s + 2) u1 v1 (by omega) hR (by omega) (by omega) (fun z => absurd z (by omega)) (fun _ => by omega))
theorem pl_main (hSt : ∀ t, t < S → rl_St kd nu co cl tk cn t) (hle : rl_L le) (hS : S ≤ 8) (hL : L ≤ 150) (hm : m < 3) :
    ∀ (d P sgn p : Nat) (u : SX) (v : SY), 100000 ≤ P + d → rr_R pn wp se wy ra it le pe op kd nu co cl si tk cn L S m sgn p P u v → sgn ≤ 2 → p ≤ S + 1 → (sgn = 0 → p ≤ S) → (sgn ≠ 0 → 1 ≤ p) → pl_Q pn wp se wy ra it le pe op kd nu co cl si tk cn L S m P d sgn p u v := by
  intro d
  induction d using Nat.strongRecOn with
  | _ d IH =>
    intro P sgn p u v hPd hR hsg hp hp0 hp1
    have hPb := rr_bound hS hL hp hR
    by_cases hpS : p = S + 1
    · -- the pipeline has answered
      subst hpS
      have hR' := hR
      obtain ⟨q, g, e, r, b, fl, el, rs, sn, ya, vv, vt, ot, br, oc, ap, rd, bg, ct, ls, hd, hk, hc, lf, la, pc, yb, yh, yk, ho, vl, vs, os, rfl, rfl, h1, rfl, h2⟩ := hR
      have : sgn = 1 ∨ sgn = 2 := by
        have : sgn ≠ 0 := fun z => by have := hp0 z; omega
        omega
      rcases this with rfl | rfl
      · refine ⟨1, _, _, Or.inr ⟨_, Nat.le_refl _, Or.inl ⟨rfl, hR'⟩⟩, fun post nf t hf ht hq => ?_, fun post nf hf hq => ?_⟩
        · obtain ⟨f, rfl⟩ : ∃ f, nf = f + 1 := ⟨nf - 1, by omega⟩
          exact br_f (nx_lt (by omega)) (br_t (Int32.le_refl _) (br_t rfl (br_t rfl hq)))
        · obtain ⟨f, rfl⟩ : ∃ f, nf = f + 1 := ⟨nf - 1, by omega⟩
          exact br_t (Int32.le_refl _) hq
      · refine ⟨0, _, _, Or.inr ⟨_, Nat.le_refl _, Or.inr ⟨rfl, hR'⟩⟩, fun post nf t hf ht hq => ?_, fun post nf hf hq => ?_⟩
        · obtain ⟨f, rfl⟩ : ∃ f, nf = f + 1 := ⟨nf - 1, by omega⟩
          exact br_f (nx_lt (by omega)) (br_t (Int32.le_refl _) (br_t rfl (br_f (by decide) hq)))
        · obtain ⟨f, rfl⟩ : ∃ f, nf = f + 1 := ⟨nf - 1, by omega⟩
          exact br_t (Int32.le_refl _) hq
    · cases p with
      | zero =>
        have hsg0 : sgn = 0 := by
          apply Classical.byContradiction
          intro z
          have := hp1 z; omega
        subst hsg0
        obtain ⟨q, g, e, r, b, fl, el, rs, sn, ya, vv, vt, ot, br, oc, ap, rd, bg, ct, ls, hd, hk, hc, lf, la, pc, yb, yh, yk, ho, vl, vs, os, rfl, rfl, h1, rfl, h2⟩ := hR
        obtain ⟨act, u1, v1, w1, w2, w3⟩ := ms_sr (pn := pn) (wp := wp) (se := se) (fl := fl) (el := el) (rs := rs) (sn := sn) (it := it) (le := le) (pe := pe) (op := op) (kd := kd) (nu := nu) (co := co) (cl := cl) (ap := ap) (rd := rd) (si := si) (bg := bg) (ct := ct) (ls := ls) (hd := hd) (hk := hk) (hc := hc) (vl := vl) (wy := wy) (ya := ya) (vv := vv) (vt := vt) (ot := ot) (ra := ra) (br := br) (oc := oc) (tk := tk) (cn := cn) (lf := lf) (la := la) (pc := pc) (yb := yb) (yh := yh) (yk := yk) (ho := ho) (vs := vs) (os := os) hSt hle hS hL hm h2
        rcases w3 with ⟨rfl, ho⟩ | ⟨P', hP', hN⟩
        · refine ⟨3, u1, v1, Or.inl ⟨rfl, ho⟩, fun post nf t hf ht hq => ?_, fun post nf hf hq => ?_⟩
          · obtain ⟨f, rfl⟩ : ∃ f, nf = f + 1 + 1 := ⟨nf - 2, by omega⟩
            exact w1 post (f + 1) t (by omega) (nx_out ho post f _ hq)
          · obtain ⟨f, rfl⟩ : ∃ f, nf = f + 1 := ⟨nf - 1, by omega⟩
            exact w2 post f (Or.inl ⟨rfl, hq⟩)
        · have fin : ∀ sg2 : Nat, (∀ (post : Int32 → SY → Prop) (nf : Nat), ny_W post nf (rn_aI 1) (ny_a sg2) (ny_d sg2) v1 → ((act = 0 ∨ act = 1) ∧ ny_W post nf (nI 0) act 0 v1)) → pl_Q pn wp se wy ra it le pe op kd nu co cl si tk cn L S m P' (d - 1) sg2 1 u1 v1 → pl_Q pn wp se wy ra it le pe op kd nu co cl si tk cn L S m (rn_P S g b 0 0) d 0 0 (nI L, pn, wp, nI m, nI S, se, fl, nI q, 0, rn_aI 0, nI 0, el, rs, sn, it, le, pe, op, kd, nu, co, cl, ap, rd, si, bg, ct, ls, hd, hk, hc, vl) (nI L, nI m, nI S, wy, nI q, ya, se, fl, vv, vt, ot, ra, br, oc, it, le, tk, cn, kd, nu, lf, la, pc, yb, yh, yk, ho, ap, rd, si, vs, os) := by
            rintro sg2 hA ⟨o, u', v', hr, gx, gy⟩
            refine ⟨o, u', v', ?_, fun post nf t hf ht hq => ?_, fun post nf hf hq => ?_⟩
            · rcases hr with hr | ⟨P2, a, c⟩
              · exact Or.inl hr
              · exact Or.inr ⟨P2, by omega, c⟩
            · obtain ⟨f, rfl⟩ : ∃ f, nf = f + 1 := ⟨nf - 1, by omega⟩
              exact w1 post f t (by omega) (gx post f (t + 1) (by omega) (by omega) hq)
            · obtain ⟨f, rfl⟩ : ∃ f, nf = f + 1 := ⟨nf - 1, by omega⟩
              exact w2 post f (Or.inr (hA post f (gy post f (by omega) hq)))
          rcases hN with ⟨rfl, hR⟩ | ⟨rfl, hR⟩
          · exact fin 1 (fun post nf z => ⟨Or.inr rfl, z⟩) (IH (d - 1) (by omega) P' 1 1 u1 v1 (by omega) hR (by omega) (by omega) (fun z => absurd z (by omega)) (fun _ => by omega))
          · exact fin 2 (fun post nf z => ⟨Or.inl rfl, z⟩) (IH (d - 1) (by omega) P' 2 1 u1 v1 (by omega) hR (by omega) (by omega) (fun z => absurd z (by omega)) (fun _ => by omega))
      | succ s =>
        have hs : s < S := by omega
        obtain ⟨q, g, e, r, b, fl, el, rs, sn, ya, vv, vt, ot, br, oc, ap, rd, bg, ct, ls, hd, hk, hc, lf, la, pc, yb, yh, yk, ho, vl, vs, os, rfl, rfl, h1, rfl, h2⟩ := hR
        have : sgn = 0 ∨ sgn = 1 ∨ sgn = 2 := by omega
        rcases this with rfl | rfl | rfl
        · obtain ⟨act, u1, v1, w1, w2, w3⟩ := ms_0 (pn := pn) (wp := wp) (se := se) (fl := fl) (el := el) (rs := rs) (sn := sn) (it := it) (le := le) (pe := pe) (op := op) (kd := kd) (nu := nu) (co := co) (cl := cl) (ap := ap) (rd := rd) (si := si) (bg := bg) (ct := ct) (ls := ls) (hd := hd) (hk := hk) (hc := hc) (vl := vl) (wy := wy) (ya := ya) (vv := vv) (vt := vt) (ot := ot) (ra := ra) (br := br) (oc := oc) (tk := tk) (cn := cn) (lf := lf) (la := la) (pc := pc) (yb := yb) (yh := yh) (yk := yk) (ho := ho) (vs := vs) (os := os) hSt hle hS hL hs h2
          exact pl_go IH hPd hPb hs act u1 v1 (kx := 1) (by omega) (by omega) (Nat.le_refl _) (fun post nf t ht z => w1 post nf t (by omega) z) w2 w3
        · have := h1 rfl
          subst this
          obtain ⟨act, u1, v1, kx, P1, w0, w0', w1, w2, w3, w4⟩ := ms_1 (pn := pn) (wp := wp) (se := se) (fl := fl) (rs := rs) (sn := sn) (it := it) (le := le) (pe := pe) (op := op) (kd := kd) (nu := nu) (co := co) (cl := cl) (ap := ap) (rd := rd) (si := si) (bg := bg) (ct := ct) (ls := ls) (hd := hd) (hk := hk) (hc := hc) (vl := vl) (wy := wy) (ya := ya) (vt := vt) (ot := ot) (ra := ra) (br := br) (oc := oc) (tk := tk) (cn := cn) (lf := lf) (la := la) (pc := pc) (yb := yb) (yh := yh) (yk := yk) (ho := ho) (vs := vs) (os := os) (y := el) hSt hle hS hL hs h2
          exact pl_go IH hPd hPb hs act u1 v1 w0 w0' w1 w2 w3 w4
        · obtain ⟨act, u1, v1, kx, P1, w0, w0', w1, w2, w3, w4⟩ := ms_2 (pn := pn) (wp := wp) (se := se) (fl := fl) (el := el) (rs := rs) (sn := sn) (it := it) (le := le) (pe := pe) (op := op) (kd := kd) (nu := nu) (co := co) (cl := cl) (ap := ap) (rd := rd) (si := si) (bg := bg) (ct := ct) (ls := ls) (hd := hd) (hk := hk) (hc := hc) (vl := vl) (wy := wy) (ya := ya) (vv := vv) (vt := vt) (ot := ot) (ra := ra) (br := br) (oc := oc) (tk := tk) (cn := cn) (lf := lf) (la := la) (pc := pc) (yb := yb) (yh := yh) (yk := yk) (ho := ho) (vs := vs) (os := os) hSt hle hS hL hs h2
          exact pl_go IH hPd hPb hs act u1 v1 w0 w0' w1 w2 w3 w4
/-- between two askings -/
def rb_B (pn wp se wy ra : Int32) (it le pe op kd nu co cl si tk cn : Nat → Int32) (L S m P : Nat) (u : SX) (v : SY) : Prop := ∃ (q : Nat) (g e r b : Nat → Nat) (fl pt sg el rs sn ya vv vt ot br : Int32) (oc : Int64) (ap rd bg ct ls hd hk hc lf la pc yb yh yk ho vl vs os : Nat → Int32), u = (nI L, pn, wp, nI m, nI S, se, fl, nI q, 0, pt, sg, el, rs, sn, it, le, pe, op, kd, nu, co, cl, ap, rd, si, bg, ct, ls, hd, hk, hc, vl) ∧ v = (nI L, nI m, nI S, wy, nI q, ya, se, fl, vv, vt, ot, ra, br, oc, it, le, tk, cn, kd, nu, lf, la, pc, yb, yh, yk, ho, ap, rd, si, vs, os) ∧ P = rn_P S g b 0 S ∧ dd_D S L m le kd nu g e r b 0 S q sn ya bg ct ls hd hk hc lf la pc yb yh yk ho
/-- an element has come -/
def rg_G (pn wp se wy ra : Int32) (it le pe op kd nu co cl si tk cn : Nat → Int32) (L S m P : Nat) (w : Int32) (u : SX) (v : SY) : Prop := ∃ (q : Nat) (g e r b : Nat → Nat) (fl pt sg rs sn ya vt ot br : Int32) (oc : Int64) (ap rd bg ct ls hd hk hc lf la pc yb yh yk ho vl vs os : Nat → Int32), u = (nI L, pn, wp, nI m, nI S, se, fl, nI q, 0, pt, sg, w, rs, sn, it, le, pe, op, kd, nu, co, cl, ap, rd, si, bg, ct, ls, hd, hk, hc, vl) ∧ v = (nI L, nI m, nI S, wy, nI q, ya, se, fl, w, vt, ot, ra, br, oc, it, le, tk, cn, kd, nu, lf, la, pc, yb, yh, yk, ho, ap, rd, si, vs, os) ∧ P = rn_P S g b 0 S ∧ dd_D S L m le kd nu g e r b 0 S q sn ya bg ct ls hd hk hc lf la pc yb yh yk ho
/-- the pipeline has ended -/
def rf_F (pn wp se wy ra : Int32) (it le pe op kd nu co cl si tk cn : Nat → Int32) (L S m : Nat) (u : SX) (v : SY) : Prop := ∃ (q : Nat) (fl pt sg el rs sn ya vv vt ot br : Int32) (oc : Int64) (ap rd bg ct ls hd hk hc lf la pc yb yh yk ho vl vs os : Nat → Int32), u = (nI L, pn, wp, nI m, nI S, se, fl, nI q, 0, pt, sg, el, rs, sn, it, le, pe, op, kd, nu, co, cl, ap, rd, si, bg, ct, ls, hd, hk, hc, vl) ∧ v = (nI L, nI m, nI S, wy, nI q, ya, se, fl, vv, vt, ot, ra, br, oc, it, le, tk, cn, kd, nu, lf, la, pc, yb, yh, yk, ho, ap, rd, si, vs, os)
theorem rb_next {P : Nat} {u : SX} {v : SY} (hS8 : S ≤ 8) (hSt : ∀ t, t < S → rl_St kd nu co cl tk cn t) (h : rr_R pn wp se wy ra it le pe op kd nu co cl si tk cn L S m 1 (S + 1) P u v) : ∃ (w : Int32) (P' : Nat), P < P' ∧ rg_G pn wp se wy ra it le pe op kd nu co cl si tk cn L S m P' w u v := by
  obtain ⟨q, g, e, r, b, fl, el, rs, sn, ya, vv, vt, ot, br, oc, ap, rd, bg, ct, ls, hd, hk, hc, lf, la, pc, yb, yh, yk, ho, vl, vs, os, rfl, rfl, h1, rfl, h2⟩ := h
  have := h1 rfl
  subst this
  have hkd := ms_hkd hSt
  obtain ⟨d1, ⟨j, d2a, d2b, d2c⟩, d3, d4, d5, d6, d7, d8⟩ := h2
  · have hP : rn_P S g b 1 (S + 1) < rn_P S g b 0 S := by
      unfold rn_P rn_ph
      simp; omega
    refine ⟨el, _, hP, q, g, e, r, b, fl, _, _, rs, sn, ya, vt, ot, br, oc, ap, rd, bg, ct, ls, hd, hk, hc, lf, la, pc, yb, yh, yk, ho, vl, vs, os, rfl, rfl, rfl, d1, ⟨j, by omega, d2b, d2c⟩, fun s hs => dd_mono (hkd s hs) (Nat.le_of_lt hP) (d3 s hs), d4, d5, fun s _ _ z => absurd z (by decide), fun s hs hp _ => ?_, d8⟩
    rcases hp with hp | ⟨_, z⟩
    · omega
    · exact absurd rfl z
theorem pl_pull (hSt : ∀ t, t < S → rl_St kd nu co cl tk cn t) (hle : rl_L le) (hS : S ≤ 8) (hL : L ≤ 150) (hm : m < 3) {P : Nat} {u : SX} {v : SY} (h : rb_B pn wp se wy ra it le pe op kd nu co cl si tk cn L S m P u v) :
    ∃ (o : Int32) (u' : SX) (v' : SY), ((o = 3 ∧ ro_O pn wp se wy ra it le pe op kd nu co cl si tk cn L S m u' v') ∨ (o = 0 ∧ rf_F pn wp se wy ra it le pe op kd nu co cl si tk cn L S m u' v') ∨ (o = 1 ∧ ∃ (w : Int32) (P' : Nat), P < P' ∧ rg_G pn wp se wy ra it le pe op kd nu co cl si tk cn L S m P' w u' v')) ∧
      (∀ post : Int32 → SX → Prop, post (nx_o o) u' → wpX_nextComes post u) ∧ (∀ post : Int32 → SY → Prop, post o v' → wpY_pull post v) := by
  obtain ⟨q, g, e, r, b, fl, pt, sg, el, rs, sn, ya, vv, vt, ot, br, oc, ap, rd, bg, ct, ls, hd, hk, hc, lf, la, pc, yb, yh, yk, ho, vl, vs, os, rfl, rfl, rfl, h2⟩ := h
  have hR : rr_R pn wp se wy ra it le pe op kd nu co cl si tk cn L S m 0 S (rn_P S g b 0 S) (nI L, pn, wp, nI m, nI S, se, fl, nI q, 0, rn_aI S, nI 0, el, rs, sn, it, le, pe, op, kd, nu, co, cl, ap, rd, si, bg, ct, ls, hd, hk, hc, vl) (nI L, nI m, nI S, wy, nI q, ya, se, fl, vv, vt, ot, ra, br, oc, it, le, tk, cn, kd, nu, lf, la, pc, yb, yh, yk, ho, ap, rd, si, vs, os) :=
    ⟨q, g, e, r, b, fl, el, rs, sn, ya, vv, vt, ot, br, oc, ap, rd, bg, ct, ls, hd, hk, hc, lf, la, pc, yb, yh, yk, ho, vl, vs, os, rfl, rfl, fun z => absurd z (by decide), rfl, h2⟩
  obtain ⟨o, u', v', hr, gx, gy⟩ := pl_main hSt hle hS hL hm 100000 _ 0 S _ _ (by omega) hR (by omega) (by omega) (fun _ => Nat.le_refl _) (fun z => absurd rfl z)
  refine ⟨o, u', v', ?_, fun post hp => ?_, fun post hp => ?_⟩
  · rcases hr with hr | ⟨P', hP', hr⟩
    · exact Or.inl hr
    · rcases hr with ⟨rfl, hr⟩ | ⟨rfl, hr⟩
      · obtain ⟨w, P2, hP2, hG⟩ := rb_next hS hSt hr
        exact Or.inr (Or.inr ⟨rfl, w, P2, by omega, hG⟩)
      · obtain ⟨q, g, e, r, b, fl, el, rs, sn, ya, vv, vt, ot, br, oc, ap, rd, bg, ct, ls, hd, hk, hc, lf, la, pc, yb, yh, yk, ho, vl, vs, os, rfl, rfl, h1, _, _⟩ := hr
        exact Or.inr (Or.inl ⟨rfl, q, fl, _, _, el, rs, sn, ya, vv, vt, ot, br, oc, ap, rd, bg, ct, ls, hd, hk, hc, lf, la, pc, yb, yh, yk, ho, vl, vs, os, rfl, rfl⟩)
  · exact nm_r (rn_pred S) ⟨100001, gx post 100001 0 (by omega) (by omega) hp⟩
  · exact nm_r (rn_pred S) ⟨100001, gy post 100001 (by omega) hp⟩
end
