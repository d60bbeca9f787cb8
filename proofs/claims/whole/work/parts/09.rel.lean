/-! the relation between two calls -/
def rl_hx (k : Nat) : Bool := k == 0 || k == 1 || k == 4 || k == 5 || k == 7 || k == 10 || k == 12 || k == 14 || k == 16
def rl_Ex (co cl tk cn : Nat → Int32) (s : Nat) : Prop := ∃ (tq : Nat → Int32) (N : Nat), N ≤ 16 ∧ ex_WF tq N ∧ cn (s + 1) = nI N ∧ (∀ i, i < N → tk (16 * (s + 1) + i) = tq i) ∧ ex_lay co (16 * s) (ex_code tq N) ∧ cl s = nI (ex_code tq N).length
def rl_St (kd nu co cl tk cn : Nat → Int32) (s : Nat) : Prop := ∃ k : Nat, k ≤ 16 ∧ kd s = nI k ∧ ((k = 9 ∨ k = 10 ∨ k = 11) → ∃ m : Nat, m < 3 ∧ nu s = nI m) ∧ (rl_hx k = true → rl_Ex co cl tk cn s)
def rl_P (pn : Int32) (pe tk cn : Nat → Int32) : Prop := ∃ np : Nat, np ≤ 16 ∧ pn = nI np ∧ cn 0 = nI np ∧ ∀ i, i < np → pe i = tk i ∧ ex_tok (tk i)
def rl_S (sc : Int32) (kd nu co cl tk cn : Nat → Int32) : Prop := ∃ S : Nat, S ≤ 8 ∧ sc = nI S ∧ ∀ s, s < S → rl_St kd nu co cl tk cn s
def rl_L (le : Nat → Int32) : Prop := ∀ l, l < 3 → ∃ n : Nat, n ≤ 24 ∧ le l = nI n
def rl_M (lm : Int32) : Prop := ∃ L : Nat, 20 ≤ L ∧ L ≤ 150 ∧ lm = nI L
def rl_A (ra : Int32) (ap rd : Nat → Int32) : Prop := ra = 0 → (∀ i, i < 8 → ap i = 0) ∧ (∀ i, i < 3 → rd i = 0)
def i_Rel (_k : Nat) (u : SX) (v : SY) : Prop := ∃ (lm pn wp sr sc se fl sp py pt sg el rs sn ya vv vt ot ra br : Int32) (en oc : Int64) (it le pe op kd nu co cl ap rd si bg ct ls hd hk hc vl tk cn lf la pc yb yh yk ho vs os : Nat → Int32), u = (lm, pn, wp, sr, sc, se, fl, sp, en, pt, sg, el, rs, sn, it, le, pe, op, kd, nu, co, cl, ap, rd, si, bg, ct, ls, hd, hk, hc, vl) ∧ v = (lm, sr, sc, wp, py, ya, se, fl, vv, vt, ot, ra, br, oc, it, le, tk, cn, kd, nu, lf, la, pc, yb, yh, yk, ho, ap, rd, si, vs, os) ∧ rl_M lm ∧ rl_P pn pe tk cn ∧ (∃ m : Nat, m < 3 ∧ sr = nI m) ∧ rl_S sc kd nu co cl tk cn ∧ rl_L le ∧ (∃ c : Nat, c ≤ 16 ∧ se = nI c) ∧ rl_A ra ap rd
section
variable {lm pn wp sr sc se fl sp pt sg el rs sn wy ya vv vt ot ra br : Int32} {en oc : Int64} {it le pe op kd nu co cl ap rd si bg ct ls hd hk hc vl tk cn lf la pc yb yh yk ho vs os : Nat → Int32}
variable {py : Int32}
theorem rl_mk (k : Nat) (hM : rl_M lm) (hP : rl_P pn pe tk cn) (hSr : ∃ m : Nat, m < 3 ∧ sr = nI m) (hS : rl_S sc kd nu co cl tk cn) (hL : rl_L le) (hC : ∃ c : Nat, c ≤ 16 ∧ se = nI c) (hA : rl_A ra ap rd) : i_Rel k (lm, pn, wp, sr, sc, se, fl, sp, en, pt, sg, el, rs, sn, it, le, pe, op, kd, nu, co, cl, ap, rd, si, bg, ct, ls, hd, hk, hc, vl) (lm, sr, sc, wp, py, ya, se, fl, vv, vt, ot, ra, br, oc, it, le, tk, cn, kd, nu, lf, la, pc, yb, yh, yk, ho, ap, rd, si, vs, os) :=
  ⟨_, _, _, _, _, _, _, _, _, _, _, _, _, _, _, _, _, _, _, _, _, _, _, _, _, _, _, _, _, _, _, _, _, _, _, _, _, _, _, _, _, _, _, _, _, _, _, _, _, _, _, rfl, rfl, hM, hP, hSr, hS, hL, hC, hA⟩
end
theorem i_up {k : Nat} {u : SX} {v : SY} (h : i_Rel k u v) : i_Rel (k + 4) u v := h
theorem rl_0 (L : Nat) (h1 : 20 ≤ L) (h2 : L ≤ 150) : i_Rel 1 (nI L, 0, (-1), 0, 0, 0, (-1), 0, 0, 0, 0, 0, 0, 0, (fun _ => 0), (fun _ => 0), (fun _ => 0), (fun _ => 0), (fun _ => 0), (fun _ => 0), (fun _ => 0), (fun _ => 0), (fun _ => 0), (fun _ => 0), (fun _ => 0), (fun _ => 0), (fun _ => 0), (fun _ => 0), (fun _ => 0), (fun _ => 0), (fun _ => 0), (fun _ => 0)) (nI L, 0, 0, (-1), 0, 0, 0, (-1), 0, 0, 0, 0, 0, 0, (fun _ => 0), (fun _ => 0), (fun _ => 0), (fun _ => 0), (fun _ => 0), (fun _ => 0), (fun _ => 0), (fun _ => 0), (fun _ => 0), (fun _ => 0), (fun _ => 0), (fun _ => 0), (fun _ => 0), (fun _ => 0), (fun _ => 0), (fun _ => 0), (fun _ => 0), (fun _ => 0)) :=
  ⟨_, _, _, _, _, _, _, _, _, _, _, _, _, _, _, _, _, _, _, _, _, _, _, _, _, _, _, _, _, _, _, _, _, _, _, _, _, _, _, _, _, _, _, _, _, _, _, _, _, _, _, rfl, rfl, ⟨L, h1, h2, rfl⟩, ⟨0, by omega, rfl, rfl, fun i h => absurd h (by omega)⟩, ⟨0, by omega, rfl⟩, ⟨0, by omega, rfl, fun i h => absurd h (by omega)⟩, fun l _ => ⟨0, by omega, rfl⟩, ⟨0, by omega, rfl⟩, fun _ => ⟨fun _ _ => rfl, fun _ _ => rfl⟩⟩
theorem i_vc0 (k0 : Int32) : wpX_init (fun u => wpY_init (fun v => i_Rel 1 u v) k0) k0 := by
  by_cases h20 : 20 ≤ k0
  · by_cases h150 : k0 ≤ 150
    · obtain ⟨L, hL, rfl⟩ := nI_of2 (x := k0) (M := 150) (n := 150) (by decide) (by
        intro h; exact Int32.lt_irrefl (Int32.lt_of_lt_of_le h (Int32.le_trans (by decide : (0 : Int32) ≤ 20) h20))) h150
      have hL2 : 20 ≤ L := by
        rw [show (20 : Int32) = nI 20 from rfl, nI_leI (by omega) (by omega)] at h20; exact h20
      exact br_t h20 (br_t h150 (br_t h20 (br_t h150 (rl_0 L hL2 hL))))
    · exact br_t h20 (br_f h150 (br_t h20 (br_f h150 (rl_0 150 (by omega) (by omega)))))
  · exact br_f h20 (br_t (by decide) (br_f h20 (rl_0 20 (by omega) (by omega))))
theorem xr_isList {post : Int32 → Prop} {x : Int32} {j : Nat} (hj : j < 3) (hx : x = nI j) (h : post 1) : wpX_isList post x := by
  subst hx
  exact br_f (nI_pos (by omega)) (br_f (nI_ge (b := 3) hj (by decide)) h)
theorem yr_isList {post : Int32 → Prop} {x : Int32} {j : Nat} (hj : j < 3) (hx : x = nI j) (h : post 1) : wpY_isList post x := by
  subst hx
  refine br_f (nI_pos (by omega)) (br_f ?_ h)
  rw [show (2 : Int32) = nI 2 from rfl, nI_ltI (by omega) (by omega)]; omega
theorem xr_noList {post : Int32 → Prop} {x : Int32} (hx : x < 0 ∨ nI 3 ≤ x) (h : post 0) : wpX_isList post x := by
  rcases hx with hx | hx
  · exact br_t hx h
  · exact br_c (fun _ => h) (fun _ => br_t hx h)
theorem yr_noList {post : Int32 → Prop} {x : Int32} (hx : x < 0 ∨ nI 3 ≤ x) (h : post 0) : wpY_isList post x := by
  rcases hx with hx | hx
  · exact br_t hx h
  · exact br_c (fun _ => h) (fun _ => br_t (Int32.lt_of_lt_of_le (by decide) hx) h)
theorem rl_ix (x : Int32) : (x < 0 ∨ nI 3 ≤ x) ∨ ∃ j : Nat, j < 3 ∧ x = nI j := by
  rcases pk_ix x (n := 3) (by omega) with h | h | h
  · exact Or.inl (Or.inl h)
  · exact Or.inl (Or.inr h)
  · exact Or.inr h
theorem rl_L_upd {le : Nat → Int32} {j n : Nat} (h : rl_L le) (hn : n ≤ 24) : rl_L (upd le j (nI n)) := by
  intro l hl
  by_cases e : l = j
  · subst e; exact ⟨n, hn, pk_us⟩
  · rw [pk_un e]; exact h l hl
theorem i_vc_append {k : Nat} {u : SX} {v : SY} (I : i_Rel k u v) (hk : k + 4 ≤ 2049) (v1 : Int32) (v2 : Int32) : wpX_append (fun r u' => wpY_append (fun r' v' => r' = r ∧ i_Rel (k + 4) u' v') v v1 v2) u v1 v2 := by
  obtain ⟨lm, pn, wp, sr, sc, se, fl, sp, py, pt, sg, el, rs, sn, ya, vv, vt, ot, ra, br, en, oc, it, le, pe, op, kd, nu, co, cl, ap, rd, si, bg, ct, ls, hd, hk, hc, vl, tk, cn, lf, la, pc, yb, yh, yk, ho, vs, os, rfl, rfl, hM, hP, hSr, hS, hL, hC, hA⟩ := I
  rcases rl_ix v1 with hx | ⟨j, hj, rfl⟩
  · have hX : ∀ post : Int32 → SX → Prop, post (-1) (lm, pn, wp, sr, sc, se, fl, sp, en, pt, sg, el, rs, sn, it, le, pe, op, kd, nu, co, cl, ap, rd, si, bg, ct, ls, hd, hk, hc, vl) → wpX_append post (lm, pn, wp, sr, sc, se, fl, sp, en, pt, sg, el, rs, sn, it, le, pe, op, kd, nu, co, cl, ap, rd, si, bg, ct, ls, hd, hk, hc, vl) v1 v2 := fun post h => by
      unfold wpX_append; refine xr_noList hx ?_; exact br_t rfl h
    have hY : ∀ post : Int32 → SY → Prop, post (-1) (lm, sr, sc, wp, py, ya, se, fl, vv, vt, ot, ra, br, oc, it, le, tk, cn, kd, nu, lf, la, pc, yb, yh, yk, ho, ap, rd, si, vs, os) → wpY_append post (lm, sr, sc, wp, py, ya, se, fl, vv, vt, ot, ra, br, oc, it, le, tk, cn, kd, nu, lf, la, pc, yb, yh, yk, ho, ap, rd, si, vs, os) v1 v2 := fun post h => by
      unfold wpY_append; refine yr_noList hx ?_; exact br_t rfl h
    exact hX _ (hY _ ⟨rfl, rl_mk _ hM hP hSr hS hL hC hA⟩)
  · obtain ⟨n, hn, hln⟩ := hL j hj
    have hcj : (nI j).toNatClampNeg = j := nI_clamp (by omega)
    have hlc : le (nI j).toNatClampNeg = nI n := by rw [hcj]; exact hln
    have hi : vp_in (nI j) 3 := vp_in_nI hj (by omega)
    have eX : nI j * 24 + le (nI j).toNatClampNeg = nI (24 * j + n) := by
      rw [hlc, show (24 : Int32) = nI 24 from rfl, pk_mul, nI_add]; exact congrArg nI (by omega)
    have eY : 24 * nI j + le (nI j).toNatClampNeg = nI (24 * j + n) := by
      rw [hlc, show (24 : Int32) = nI 24 from rfl, pk_mul, nI_add]
    by_cases h24 : n = 24
    · subst h24
      have hX : ∀ post : Int32 → SX → Prop, post (-2) (lm, pn, wp, sr, sc, se, fl, sp, en, pt, sg, el, rs, sn, it, le, pe, op, kd, nu, co, cl, ap, rd, si, bg, ct, ls, hd, hk, hc, vl) → wpX_append post (lm, pn, wp, sr, sc, se, fl, sp, en, pt, sg, el, rs, sn, it, le, pe, op, kd, nu, co, cl, ap, rd, si, bg, ct, ls, hd, hk, hc, vl) (nI j) v2 := fun post h => by
        unfold wpX_append; refine xr_isList hj rfl ?_
        refine br_f (by decide) ⟨hi, br_f ?_ h⟩
        rw [hlc]; decide
      have hY : ∀ post : Int32 → SY → Prop, post (-2) (lm, sr, sc, wp, py, ya, se, fl, vv, vt, ot, ra, br, oc, it, le, tk, cn, kd, nu, lf, la, pc, yb, yh, yk, ho, ap, rd, si, vs, os) → wpY_append post (lm, sr, sc, wp, py, ya, se, fl, vv, vt, ot, ra, br, oc, it, le, tk, cn, kd, nu, lf, la, pc, yb, yh, yk, ho, ap, rd, si, vs, os) (nI j) v2 := fun post h => by
        unfold wpY_append; refine yr_isList hj rfl ?_
        exact br_f (by decide) ⟨hi, br_t hlc h⟩
      exact hX _ (hY _ ⟨rfl, rl_mk _ hM hP hSr hS hL hC hA⟩)
    · have hup : upd le j (nI (n + 1)) (nI j).toNatClampNeg = nI (n + 1) := by rw [hcj, pk_us]
      have hX : ∀ post : Int32 → SX → Prop, post (nI (n + 1)) (lm, pn, wp, sr, sc, se, fl, sp, en, pt, sg, el, rs, sn, upd it (24 * j + n) v2, upd le j (nI (n + 1)), pe, op, kd, nu, co, cl, ap, rd, si, bg, ct, ls, hd, hk, hc, vl) → wpX_append post (lm, pn, wp, sr, sc, se, fl, sp, en, pt, sg, el, rs, sn, it, le, pe, op, kd, nu, co, cl, ap, rd, si, bg, ct, ls, hd, hk, hc, vl) (nI j) v2 := fun post h => by
        unfold wpX_append; refine xr_isList hj rfl ?_
        refine br_f (by decide) ⟨hi, br_t ?_ ⟨hi, ?_, nm_r (e' := upd it (24 * j + n) v2) ?_ ⟨hi, hi, nm_r (e' := upd le j (nI (n + 1))) ?_ ⟨hi, ?_⟩⟩⟩⟩
        · rw [hlc, show (24 : Int32) = nI 24 from rfl, nI_ltI (by omega) (by omega)]; omega
        · rw [eX]; exact vp_in_nI (by omega) (by omega)
        · rw [eX, nI_clamp (by omega)]
        · rw [hlc, hcj, nI_1]
        · rw [hup]; exact h
      have hY : ∀ post : Int32 → SY → Prop, post (nI (n + 1)) (lm, sr, sc, wp, py, ya, se, fl, vv, vt, ot, ra, br, oc, upd it (24 * j + n) v2, upd le j (nI (n + 1)), tk, cn, kd, nu, lf, la, pc, yb, yh, yk, ho, ap, rd, si, vs, os) → wpY_append post (lm, sr, sc, wp, py, ya, se, fl, vv, vt, ot, ra, br, oc, it, le, tk, cn, kd, nu, lf, la, pc, yb, yh, yk, ho, ap, rd, si, vs, os) (nI j) v2 := fun post h => by
        unfold wpY_append; refine yr_isList hj rfl ?_
        refine br_f (by decide) ⟨hi, br_f ?_ ⟨hi, hi, nm_r (e' := upd le j (nI (n + 1))) ?_ ⟨?_, nm_r (e' := upd it (24 * j + n) v2) ?_ ⟨hi, ?_⟩⟩⟩⟩
        · rw [hlc, show (24 : Int32) = nI 24 from rfl, nI_eq (by omega) (by omega)]; exact h24
        · rw [hlc, hcj, nI_1]
        · rw [eY]; exact vp_in_nI (by omega) (by omega)
        · rw [eY, nI_clamp (by omega)]
        · rw [hup]; exact h
      exact hX _ (hY _ ⟨rfl, rl_mk _ hM hP hSr hS (rl_L_upd hL (by omega)) hC hA⟩)
theorem i_vc_set {k : Nat} {u : SX} {v : SY} (I : i_Rel k u v) (hk : k + 4 ≤ 2049) (v1 : Int32) (v2 : Int32) (v3 : Int32) : wpX_set (fun r u' => wpY_set (fun r' v' => r' = r ∧ i_Rel (k + 4) u' v') v v1 v2 v3) u v1 v2 v3 := by
  obtain ⟨lm, pn, wp, sr, sc, se, fl, sp, py, pt, sg, el, rs, sn, ya, vv, vt, ot, ra, br, en, oc, it, le, pe, op, kd, nu, co, cl, ap, rd, si, bg, ct, ls, hd, hk, hc, vl, tk, cn, lf, la, pc, yb, yh, yk, ho, vs, os, rfl, rfl, hM, hP, hSr, hS, hL, hC, hA⟩ := I
  rcases rl_ix v1 with hx | ⟨j, hj, rfl⟩
  · have hX : ∀ post : Int32 → SX → Prop, post (-1) (lm, pn, wp, sr, sc, se, fl, sp, en, pt, sg, el, rs, sn, it, le, pe, op, kd, nu, co, cl, ap, rd, si, bg, ct, ls, hd, hk, hc, vl) → wpX_set post (lm, pn, wp, sr, sc, se, fl, sp, en, pt, sg, el, rs, sn, it, le, pe, op, kd, nu, co, cl, ap, rd, si, bg, ct, ls, hd, hk, hc, vl) v1 v2 v3 := fun post h => by
      unfold wpX_set; refine xr_noList hx ?_; exact br_t rfl h
    have hY : ∀ post : Int32 → SY → Prop, post (-1) (lm, sr, sc, wp, py, ya, se, fl, vv, vt, ot, ra, br, oc, it, le, tk, cn, kd, nu, lf, la, pc, yb, yh, yk, ho, ap, rd, si, vs, os) → wpY_set post (lm, sr, sc, wp, py, ya, se, fl, vv, vt, ot, ra, br, oc, it, le, tk, cn, kd, nu, lf, la, pc, yb, yh, yk, ho, ap, rd, si, vs, os) v1 v2 v3 := fun post h => by
      unfold wpY_set; refine yr_noList hx ?_; exact br_t rfl h
    exact hX _ (hY _ ⟨rfl, rl_mk _ hM hP hSr hS hL hC hA⟩)
  · obtain ⟨n, hn, hln⟩ := hL j hj
    have hcj : (nI j).toNatClampNeg = j := nI_clamp (by omega)
    have hlc : le (nI j).toNatClampNeg = nI n := by rw [hcj]; exact hln
    have hi : vp_in (nI j) 3 := vp_in_nI hj (by omega)
    by_cases h0 : v2 < 0
    · have hX : ∀ post : Int32 → SX → Prop, post (-1) (lm, pn, wp, sr, sc, se, fl, sp, en, pt, sg, el, rs, sn, it, le, pe, op, kd, nu, co, cl, ap, rd, si, bg, ct, ls, hd, hk, hc, vl) → wpX_set post (lm, pn, wp, sr, sc, se, fl, sp, en, pt, sg, el, rs, sn, it, le, pe, op, kd, nu, co, cl, ap, rd, si, bg, ct, ls, hd, hk, hc, vl) (nI j) v2 v3 := fun post h => by
        unfold wpX_set; refine xr_isList hj rfl ?_; exact br_f (by decide) (br_t h0 h)
      have hY : ∀ post : Int32 → SY → Prop, post (-1) (lm, sr, sc, wp, py, ya, se, fl, vv, vt, ot, ra, br, oc, it, le, tk, cn, kd, nu, lf, la, pc, yb, yh, yk, ho, ap, rd, si, vs, os) → wpY_set post (lm, sr, sc, wp, py, ya, se, fl, vv, vt, ot, ra, br, oc, it, le, tk, cn, kd, nu, lf, la, pc, yb, yh, yk, ho, ap, rd, si, vs, os) (nI j) v2 v3 := fun post h => by
        unfold wpY_set; refine yr_isList hj rfl ?_; exact br_f (by decide) (br_t h0 h)
      exact hX _ (hY _ ⟨rfl, rl_mk _ hM hP hSr hS hL hC hA⟩)
    · by_cases hlt : v2 < le (nI j).toNatClampNeg
      · obtain ⟨p, hp, rfl⟩ := nI_of h0
        have hpn : p < n := by rw [hlc, nI_ltI hp (by omega)] at hlt; exact hlt
        have eX : nI j * 24 + nI p = nI (24 * j + p) := by
          rw [show (24 : Int32) = nI 24 from rfl, pk_mul, nI_add]; exact congrArg nI (by omega)
        have eY : 24 * nI j + nI p = nI (24 * j + p) := by
          rw [show (24 : Int32) = nI 24 from rfl, pk_mul, nI_add]
        have hin : vp_in (nI (24 * j + p)) 72 := vp_in_nI (by omega) (by omega)
        have hcc : (nI (24 * j + p)).toNatClampNeg = 24 * j + p := nI_clamp (by omega)
        have hX : ∀ post : Int32 → SX → Prop, post (it (24 * j + p) &&& 1073741823) (lm, pn, wp, sr, sc, se, fl, sp, en, pt, sg, el, rs, sn, upd it (24 * j + p) v3, le, pe, op, kd, nu, co, cl, ap, rd, si, bg, ct, ls, hd, hk, hc, vl) → wpX_set post (lm, pn, wp, sr, sc, se, fl, sp, en, pt, sg, el, rs, sn, it, le, pe, op, kd, nu, co, cl, ap, rd, si, bg, ct, ls, hd, hk, hc, vl) (nI j) (nI p) v3 := fun post h => by
          unfold wpX_set; refine xr_isList hj rfl ?_
          refine br_f (by decide) (br_f h0 ⟨hi, br_t hlt ⟨?_, nm_r (e' := it (24 * j + p)) ?_ ⟨?_, nm_r (e' := upd it (24 * j + p) v3) ?_ h⟩⟩⟩)
          · rw [eX]; exact hin
          · rw [eX, hcc]
          · rw [eX]; exact hin
          · rw [eX, hcc]
        have hY : ∀ post : Int32 → SY → Prop, post (it (24 * j + p) &&& 1073741823) (lm, sr, sc, wp, py, ya, se, fl, vv, vt, ot, ra, br, oc, upd it (24 * j + p) v3, le, tk, cn, kd, nu, lf, la, pc, yb, yh, yk, ho, ap, rd, si, vs, os) → wpY_set post (lm, sr, sc, wp, py, ya, se, fl, vv, vt, ot, ra, br, oc, it, le, tk, cn, kd, nu, lf, la, pc, yb, yh, yk, ho, ap, rd, si, vs, os) (nI j) (nI p) v3 := fun post h => by
          unfold wpY_set; refine yr_isList hj rfl ?_
          refine br_f (by decide) (br_f h0 ⟨hi, br_t hlt ⟨?_, nm_r (e' := it (24 * j + p)) ?_ ⟨?_, nm_r (e' := upd it (24 * j + p) v3) ?_ h⟩⟩⟩)
          · rw [eY]; exact hin
          · rw [eY, hcc]
          · rw [eY]; exact hin
          · rw [eY, hcc]
        exact hX _ (hY _ ⟨rfl, rl_mk _ hM hP hSr hS hL hC hA⟩)
      · have hX : ∀ post : Int32 → SX → Prop, post (-1) (lm, pn, wp, sr, sc, se, fl, sp, en, pt, sg, el, rs, sn, it, le, pe, op, kd, nu, co, cl, ap, rd, si, bg, ct, ls, hd, hk, hc, vl) → wpX_set post (lm, pn, wp, sr, sc, se, fl, sp, en, pt, sg, el, rs, sn, it, le, pe, op, kd, nu, co, cl, ap, rd, si, bg, ct, ls, hd, hk, hc, vl) (nI j) v2 v3 := fun post h => by
          unfold wpX_set; refine xr_isList hj rfl ?_; exact br_f (by decide) (br_f h0 ⟨hi, br_f hlt h⟩)
        have hY : ∀ post : Int32 → SY → Prop, post (-1) (lm, sr, sc, wp, py, ya, se, fl, vv, vt, ot, ra, br, oc, it, le, tk, cn, kd, nu, lf, la, pc, yb, yh, yk, ho, ap, rd, si, vs, os) → wpY_set post (lm, sr, sc, wp, py, ya, se, fl, vv, vt, ot, ra, br, oc, it, le, tk, cn, kd, nu, lf, la, pc, yb, yh, yk, ho, ap, rd, si, vs, os) (nI j) v2 v3 := fun post h => by
          unfold wpY_set; refine yr_isList hj rfl ?_; exact br_f (by decide) (br_f h0 ⟨hi, br_f hlt h⟩)
        exact hX _ (hY _ ⟨rfl, rl_mk _ hM hP hSr hS hL hC hA⟩)
theorem i_vc_clear {k : Nat} {u : SX} {v : SY} (I : i_Rel k u v) (hk : k + 4 ≤ 2049) (v1 : Int32) : wpX_clear (fun r u' => wpY_clear (fun r' v' => r' = r ∧ i_Rel (k + 4) u' v') v v1) u v1 := by
  obtain ⟨lm, pn, wp, sr, sc, se, fl, sp, py, pt, sg, el, rs, sn, ya, vv, vt, ot, ra, br, en, oc, it, le, pe, op, kd, nu, co, cl, ap, rd, si, bg, ct, ls, hd, hk, hc, vl, tk, cn, lf, la, pc, yb, yh, yk, ho, vs, os, rfl, rfl, hM, hP, hSr, hS, hL, hC, hA⟩ := I
  rcases rl_ix v1 with hx | ⟨j, hj, rfl⟩
  · have hX : ∀ post : Int32 → SX → Prop, post (-1) (lm, pn, wp, sr, sc, se, fl, sp, en, pt, sg, el, rs, sn, it, le, pe, op, kd, nu, co, cl, ap, rd, si, bg, ct, ls, hd, hk, hc, vl) → wpX_clear post (lm, pn, wp, sr, sc, se, fl, sp, en, pt, sg, el, rs, sn, it, le, pe, op, kd, nu, co, cl, ap, rd, si, bg, ct, ls, hd, hk, hc, vl) v1 := fun post h => by
      unfold wpX_clear; refine xr_noList hx ?_; exact br_t rfl h
    have hY : ∀ post : Int32 → SY → Prop, post (-1) (lm, sr, sc, wp, py, ya, se, fl, vv, vt, ot, ra, br, oc, it, le, tk, cn, kd, nu, lf, la, pc, yb, yh, yk, ho, ap, rd, si, vs, os) → wpY_clear post (lm, sr, sc, wp, py, ya, se, fl, vv, vt, ot, ra, br, oc, it, le, tk, cn, kd, nu, lf, la, pc, yb, yh, yk, ho, ap, rd, si, vs, os) v1 := fun post h => by
      unfold wpY_clear; refine yr_noList hx ?_; exact br_t rfl h
    exact hX _ (hY _ ⟨rfl, rl_mk _ hM hP hSr hS hL hC hA⟩)
  · have hcj : (nI j).toNatClampNeg = j := nI_clamp (by omega)
    have hi : vp_in (nI j) 3 := vp_in_nI hj (by omega)
    have hX : ∀ post : Int32 → SX → Prop, post (le j) (lm, pn, wp, sr, sc, se, fl, sp, en, pt, sg, el, rs, sn, it, upd le j (nI 0), pe, op, kd, nu, co, cl, ap, rd, si, bg, ct, ls, hd, hk, hc, vl) → wpX_clear post (lm, pn, wp, sr, sc, se, fl, sp, en, pt, sg, el, rs, sn, it, le, pe, op, kd, nu, co, cl, ap, rd, si, bg, ct, ls, hd, hk, hc, vl) (nI j) := fun post h => by
      unfold wpX_clear; refine xr_isList hj rfl ?_
      exact br_f (by decide) ⟨hi, nm_r (by rw [hcj]) ⟨hi, nm_r (by rw [hcj]; rfl) h⟩⟩
    have hY : ∀ post : Int32 → SY → Prop, post (le j) (lm, sr, sc, wp, py, ya, se, fl, vv, vt, ot, ra, br, oc, it, upd le j (nI 0), tk, cn, kd, nu, lf, la, pc, yb, yh, yk, ho, ap, rd, si, vs, os) → wpY_clear post (lm, sr, sc, wp, py, ya, se, fl, vv, vt, ot, ra, br, oc, it, le, tk, cn, kd, nu, lf, la, pc, yb, yh, yk, ho, ap, rd, si, vs, os) (nI j) := fun post h => by
      unfold wpY_clear; refine yr_isList hj rfl ?_
      exact br_f (by decide) ⟨hi, nm_r (by rw [hcj]) ⟨hi, nm_r (by rw [hcj]; rfl) h⟩⟩
    exact hX _ (hY _ ⟨rfl, rl_mk _ hM hP hSr hS (rl_L_upd hL (by omega)) hC hA⟩)
theorem i_vc_from {k : Nat} {u : SX} {v : SY} (I : i_Rel k u v) (hk : k + 4 ≤ 2049) (v1 : Int32) : wpX_from (fun r u' => wpY_from (fun r' v' => r' = r ∧ i_Rel (k + 4) u' v') v v1) u v1 := by
  obtain ⟨lm, pn, wp, sr, sc, se, fl, sp, py, pt, sg, el, rs, sn, ya, vv, vt, ot, ra, br, en, oc, it, le, pe, op, kd, nu, co, cl, ap, rd, si, bg, ct, ls, hd, hk, hc, vl, tk, cn, lf, la, pc, yb, yh, yk, ho, vs, os, rfl, rfl, hM, hP, hSr, hS, hL, hC, hA⟩ := I
  rcases rl_ix v1 with hx | ⟨j, hj, rfl⟩
  · have hX : ∀ post : Int32 → SX → Prop, post (-1) (lm, pn, wp, sr, sc, se, fl, sp, en, pt, sg, el, rs, sn, it, le, pe, op, kd, nu, co, cl, ap, rd, si, bg, ct, ls, hd, hk, hc, vl) → wpX_from post (lm, pn, wp, sr, sc, se, fl, sp, en, pt, sg, el, rs, sn, it, le, pe, op, kd, nu, co, cl, ap, rd, si, bg, ct, ls, hd, hk, hc, vl) v1 := fun post h => by
      unfold wpX_from; refine xr_noList hx ?_; exact br_t rfl h
    have hY : ∀ post : Int32 → SY → Prop, post (-1) (lm, sr, sc, wp, py, ya, se, fl, vv, vt, ot, ra, br, oc, it, le, tk, cn, kd, nu, lf, la, pc, yb, yh, yk, ho, ap, rd, si, vs, os) → wpY_from post (lm, sr, sc, wp, py, ya, se, fl, vv, vt, ot, ra, br, oc, it, le, tk, cn, kd, nu, lf, la, pc, yb, yh, yk, ho, ap, rd, si, vs, os) v1 := fun post h => by
      unfold wpY_from; refine yr_noList hx ?_; exact br_t rfl h
    exact hX _ (hY _ ⟨rfl, rl_mk _ hM hP hSr hS hL hC hA⟩)
  · have hX : ∀ post : Int32 → SX → Prop, post sc (lm, pn, wp, nI j, 0, se, fl, sp, en, pt, sg, el, rs, sn, it, le, pe, op, kd, nu, co, cl, ap, rd, si, bg, ct, ls, hd, hk, hc, vl) → wpX_from post (lm, pn, wp, sr, sc, se, fl, sp, en, pt, sg, el, rs, sn, it, le, pe, op, kd, nu, co, cl, ap, rd, si, bg, ct, ls, hd, hk, hc, vl) (nI j) := fun post h => by
      unfold wpX_from; refine xr_isList hj rfl ?_; exact br_f (by decide) h
    have hY : ∀ post : Int32 → SY → Prop, post sc (lm, nI j, 0, wp, py, ya, se, fl, vv, vt, ot, ra, br, oc, it, le, tk, cn, kd, nu, lf, la, pc, yb, yh, yk, ho, ap, rd, si, vs, os) → wpY_from post (lm, sr, sc, wp, py, ya, se, fl, vv, vt, ot, ra, br, oc, it, le, tk, cn, kd, nu, lf, la, pc, yb, yh, yk, ho, ap, rd, si, vs, os) (nI j) := fun post h => by
      unfold wpY_from; refine yr_isList hj rfl ?_; exact br_f (by decide) h
    exact hX _ (hY _ ⟨rfl, rl_mk _ hM hP ⟨j, hj, rfl⟩ ⟨0, by omega, rfl, fun s hs => absurd hs (by omega)⟩ hL hC hA⟩)
theorem i_vc_place {k : Nat} {u : SX} {v : SY} (I : i_Rel k u v) (hk : k + 4 ≤ 2049) : wpX_place (fun r => wpY_place (fun r' => r' = r ∧ i_Rel (k + 4) u v) v) u := by
  have I' := i_up I
  obtain ⟨lm, pn, wp, sr, sc, se, fl, sp, py, pt, sg, el, rs, sn, ya, vv, vt, ot, ra, br, en, oc, it, le, pe, op, kd, nu, co, cl, ap, rd, si, bg, ct, ls, hd, hk, hc, vl, tk, cn, lf, la, pc, yb, yh, yk, ho, vs, os, rfl, rfl, hM, hP, hSr, hS, hL, hC, hA⟩ := I
  exact ⟨rfl, I'⟩
theorem i_vc_failed {k : Nat} {u : SX} {v : SY} (I : i_Rel k u v) (hk : k + 4 ≤ 2049) : wpX_failed (fun r => wpY_failed (fun r' => r' = r ∧ i_Rel (k + 4) u v) v) u := by
  have I' := i_up I
  obtain ⟨lm, pn, wp, sr, sc, se, fl, sp, py, pt, sg, el, rs, sn, ya, vv, vt, ot, ra, br, en, oc, it, le, pe, op, kd, nu, co, cl, ap, rd, si, bg, ct, ls, hd, hk, hc, vl, tk, cn, lf, la, pc, yb, yh, yk, ho, vs, os, rfl, rfl, hM, hP, hSr, hS, hL, hC, hA⟩ := I
  exact ⟨rfl, I'⟩
theorem i_vc_unstage {k : Nat} {u : SX} {v : SY} (I : i_Rel k u v) (hk : k + 4 ≤ 2049) : wpX_unstage (fun r u' => wpY_unstage (fun r' v' => r' = r ∧ i_Rel (k + 4) u' v') v) u := by
  obtain ⟨lm, pn, wp, sr, sc, se, fl, sp, py, pt, sg, el, rs, sn, ya, vv, vt, ot, ra, br, en, oc, it, le, pe, op, kd, nu, co, cl, ap, rd, si, bg, ct, ls, hd, hk, hc, vl, tk, cn, lf, la, pc, yb, yh, yk, ho, vs, os, rfl, rfl, hM, hP, hSr, ⟨S, hS1, rfl, hS2⟩, hL, hC, hA⟩ := I
  by_cases h0 : nI S = 0
  · exact br_t h0 (br_t h0 ⟨rfl, rl_mk _ hM hP hSr ⟨S, hS1, rfl, hS2⟩ hL hC hA⟩)
  · obtain ⟨T, rfl⟩ : ∃ T, S = T + 1 := ⟨S - 1, by
      have : S ≠ 0 := by rintro rfl; exact h0 rfl
      omega⟩
    exact br_f h0 (nm_r (nI_pred T) (br_f h0 (nm_r (nI_pred T) ⟨rfl, rl_mk _ hM hP hSr ⟨T, by omega, rfl, fun s hs => hS2 s (by omega)⟩ hL hC hA⟩)))
theorem i_vc_applied {k : Nat} {u : SX} {v : SY} (I : i_Rel k u v) (hk : k + 4 ≤ 2049) (v1 : Int32) : wpX_applied (fun r => wpY_applied (fun r' => r' = r ∧ i_Rel (k + 4) u v) v v1) u v1 := by
  have I' := i_up I
  obtain ⟨lm, pn, wp, sr, sc, se, fl, sp, py, pt, sg, el, rs, sn, ya, vv, vt, ot, ra, br, en, oc, it, le, pe, op, kd, nu, co, cl, ap, rd, si, bg, ct, ls, hd, hk, hc, vl, tk, cn, lf, la, pc, yb, yh, yk, ho, vs, os, rfl, rfl, hM, hP, hSr, hS, hL, hC, hA⟩ := I
  have hY0 : ∀ z : Int32, (v1 < 0 ∨ nI 8 ≤ v1 → z = 0) → (∀ j : Nat, j < 8 → v1 = nI j → z = ap j) → wpY_applied (fun r' => r' = z ∧ i_Rel (k + 4) (lm, pn, wp, sr, sc, se, fl, sp, en, pt, sg, el, rs, sn, it, le, pe, op, kd, nu, co, cl, ap, rd, si, bg, ct, ls, hd, hk, hc, vl) (lm, sr, sc, wp, py, ya, se, fl, vv, vt, ot, ra, br, oc, it, le, tk, cn, kd, nu, lf, la, pc, yb, yh, yk, ho, ap, rd, si, vs, os)) (lm, sr, sc, wp, py, ya, se, fl, vv, vt, ot, ra, br, oc, it, le, tk, cn, kd, nu, lf, la, pc, yb, yh, yk, ho, ap, rd, si, vs, os) v1 := by
    intro z hz hz2
    refine br_c (fun h0 => ?_) (fun _ => ?_)
    · rcases pk_ix v1 (n := 8) (by omega) with h | h | ⟨j, hj, e⟩
      · exact ⟨(hz (Or.inl h)).symm, I'⟩
      · exact ⟨(hz (Or.inr h)).symm, I'⟩
      · exact ⟨((hz2 j hj e).trans ((hA h0).1 j hj)).symm, I'⟩
    · rcases pk_ix v1 (n := 8) (by omega) with h | h | ⟨j, hj, e⟩
      · exact br_t h ⟨(hz (Or.inl h)).symm, I'⟩
      · refine br_c (fun _ => ⟨(hz (Or.inr h)).symm, I'⟩) (fun _ => br_f ?_ ⟨(hz (Or.inr h)).symm, I'⟩)
        intro h7; exact Int32.lt_irrefl (Int32.lt_of_lt_of_le (Int32.lt_of_le_of_lt h7 (by decide : (7 : Int32) < nI 8)) h)
      · have hz3 := hz2 j hj e
        subst e
        refine br_f (nI_pos (by omega)) (br_t ?_ ⟨vp_in_nI hj (by omega), ?_, I'⟩)
        · rw [show (7 : Int32) = nI 7 from rfl, nI_leI (by omega) (by omega)]; omega
        · rw [nI_clamp (by omega)]; exact hz3.symm
  rcases pk_ix v1 (n := 8) (by omega) with h | h | ⟨j, hj, e⟩
  · exact br_t h (hY0 0 (fun _ => rfl) (fun j hj e => by subst e; exact absurd h (nI_pos (by omega))))
  · refine br_c (fun h0 => hY0 0 (fun _ => rfl) (fun j hj e => by subst e; exact absurd h0 (nI_pos (by omega)))) (fun _ => br_t h (hY0 0 (fun _ => rfl) (fun j hj e => ?_)))
    subst e; exact absurd h (nI_ge hj (by omega))
  · subst e
    refine br_f (nI_pos (by omega)) (br_f (nI_ge (b := 8) hj (by decide)) ⟨vp_in_nI hj (by omega), hY0 _ (fun z => ?_) (fun i hi e => ?_)⟩)
    · rcases z with z | z
      · exact absurd z (nI_pos (by omega))
      · exact absurd z (nI_ge hj (by omega))
    · rw [nI_eq (by omega) (by omega)] at e
      subst e
      rw [nI_clamp (by omega)]
theorem i_vc_read {k : Nat} {u : SX} {v : SY} (I : i_Rel k u v) (hk : k + 4 ≤ 2049) (v1 : Int32) : wpX_read (fun r => wpY_read (fun r' => r' = r ∧ i_Rel (k + 4) u v) v v1) u v1 := by
  have I' := i_up I
  obtain ⟨lm, pn, wp, sr, sc, se, fl, sp, py, pt, sg, el, rs, sn, ya, vv, vt, ot, ra, br, en, oc, it, le, pe, op, kd, nu, co, cl, ap, rd, si, bg, ct, ls, hd, hk, hc, vl, tk, cn, lf, la, pc, yb, yh, yk, ho, vs, os, rfl, rfl, hM, hP, hSr, hS, hL, hC, hA⟩ := I
  rcases rl_ix v1 with hx | ⟨j, hj, rfl⟩
  · have hX : ∀ post : Int32 → Prop, post 0 → wpX_read post (lm, pn, wp, sr, sc, se, fl, sp, en, pt, sg, el, rs, sn, it, le, pe, op, kd, nu, co, cl, ap, rd, si, bg, ct, ls, hd, hk, hc, vl) v1 := fun post h => by
      unfold wpX_read; refine xr_noList hx ?_; exact br_t rfl h
    have hY : ∀ post : Int32 → Prop, post 0 → wpY_read post (lm, sr, sc, wp, py, ya, se, fl, vv, vt, ot, ra, br, oc, it, le, tk, cn, kd, nu, lf, la, pc, yb, yh, yk, ho, ap, rd, si, vs, os) v1 := fun post h => by
      unfold wpY_read; refine br_c (fun _ => h) (fun _ => ?_); refine yr_noList hx ?_; exact br_t rfl h
    exact hX _ (hY _ ⟨rfl, I'⟩)
  · have hi : vp_in (nI j) 3 := vp_in_nI hj (by omega)
    have hcj : (nI j).toNatClampNeg = j := nI_clamp (by omega)
    have hX : ∀ post : Int32 → Prop, post (rd j) → wpX_read post (lm, pn, wp, sr, sc, se, fl, sp, en, pt, sg, el, rs, sn, it, le, pe, op, kd, nu, co, cl, ap, rd, si, bg, ct, ls, hd, hk, hc, vl) (nI j) := fun post h => by
      unfold wpX_read; refine xr_isList hj rfl ?_; exact br_f (by decide) ⟨hi, by rw [hcj]; exact h⟩
    have hY : ∀ post : Int32 → Prop, post (rd j) → wpY_read post (lm, sr, sc, wp, py, ya, se, fl, vv, vt, ot, ra, br, oc, it, le, tk, cn, kd, nu, lf, la, pc, yb, yh, yk, ho, ap, rd, si, vs, os) (nI j) := fun post h => by
      unfold wpY_read; refine br_c (fun h0 => by rw [(hA h0).2 j hj] at h; exact h) (fun _ => ?_); refine yr_isList hj rfl ?_; exact br_f (by decide) ⟨hi, by rw [hcj]; exact h⟩
    exact hX _ (hY _ ⟨rfl, I'⟩)
theorem i_vc_seen {k : Nat} {u : SX} {v : SY} (I : i_Rel k u v) (hk : k + 4 ≤ 2049) (v1 : Int32) : wpX_seen (fun r => wpY_seen (fun r' => r' = r ∧ i_Rel (k + 4) u v) v v1) u v1 := by
  have I' := i_up I
  obtain ⟨lm, pn, wp, sr, sc, se, fl, sp, py, pt, sg, el, rs, sn, ya, vv, vt, ot, ra, br, en, oc, it, le, pe, op, kd, nu, co, cl, ap, rd, si, bg, ct, ls, hd, hk, hc, vl, tk, cn, lf, la, pc, yb, yh, yk, ho, vs, os, rfl, rfl, hM, hP, hSr, hS, hL, ⟨c, hc1, rfl⟩, hA⟩ := I
  by_cases h0 : v1 < 0
  · exact br_t h0 (br_t h0 ⟨rfl, I'⟩)
  · by_cases h1 : v1 < nI c
    · obtain ⟨p, hp, rfl⟩ := nI_of h0
      have hpc : p < c := by rw [nI_ltI hp (by omega)] at h1; exact h1
      have hin : vp_in (nI p) 16 := vp_in_nI (by omega) (by omega)
      exact br_f h0 (br_f (Int32.not_le.mpr h1) ⟨hin, br_f h0 (br_t h1 ⟨hin, rfl, I'⟩)⟩)
    · exact br_f h0 (br_t (Int32.not_lt.mp h1) (br_f h0 (br_f h1 ⟨rfl, I'⟩)))
