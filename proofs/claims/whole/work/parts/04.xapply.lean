theorem ex_cmb_out {t a b : Int32} (h : t < 4 ∨ 10 < t) : ex_cmb t a b = a &&& b := by
  unfold ex_cmb
  rcases h with h | h
  all_goals
    rw [if_neg (by rintro rfl; revert h; decide), if_neg (by rintro rfl; revert h; decide), if_neg (by rintro rfl; revert h; decide), if_neg (by rintro rfl; revert h; decide), if_neg (by rintro rfl; revert h; decide), if_neg (by rintro rfl; revert h; decide), if_neg (by rintro rfl; revert h; decide)]
theorem xr_combine {post : Int32 → Prop} {t a b : Int32} (hz : t = 7 ∨ t = 8 → ¬ b = 0) (h : post (ex_cmb t a b)) : wpX_combine post t a b := by
  refine br_c (fun a => ?_) (fun a => br_c (fun b => ?_) (fun b => ?_))
  · rw [ex_cmb_out (Or.inl a)] at h; exact h
  · rw [ex_cmb_out (Or.inr b)] at h; exact h
  · refine br_c (fun c => ?_) (fun c => br_c (fun c => ?_) (fun c => br_c (fun c => ?_) (fun c => br_c (fun c => ?_) (fun c => br_c (fun c => ?_) (fun c => br_c (fun c => ?_) (fun c => br_c (fun c => ?_) (fun c => trivial)))))))
    · subst c; exact h
    · subst c; exact h
    · subst c; exact h
    · subst c; exact ⟨hz (Or.inl rfl), h⟩
    · subst c; exact ⟨hz (Or.inr rfl), h⟩
    · subst c; exact br_ite (fun _ z => z) (fun _ z => z) (show post (if _ ≤ _ then 0 else 1) from h)
    · subst c; exact br_ite (fun _ z => z) (fun _ z => z) (show post (if _ = _ then 1 else 0) from h)
section
variable {lm pn wp sr sc se fl sp pt sg el rs sn wy ya vv vt ot ra br : Int32} {en oc : Int64} {it le pe op kd nu co cl ap rd si bg ct ls hd hk hc vl tk cn lf la pc yb yh yk ho vs os : Nat → Int32}
theorem xr_apploop (s : Nat) (hs : s < 8) (x y k : Int32) (l : List Int32) (hl16 : l.length ≤ 16) (hfit : ex_fit l 0) (hlay : ex_lay co (16 * s) l) (h1g : ex_hgt l 0 = 1) :
    ∀ (r i : Nat), i + r = l.length → ∀ (vl : Nat → Int32), (ex_ev x y k (l.take i)).2 = false → ex_stk vl (ex_ev x y k (l.take i)).1 →
    ∃ vl' : Nat → Int32, ((ex_ev x y k l).2 = false ∧ ∀ (post : Int32 → SX → Prop) (n : Nat), r < n → post 1 (lm, pn, wp, sr, sc, se, fl, sp, en, pt, sg, el, (ex_ev x y k l).1.headD 0, sn, it, le, pe, op, kd, nu, co, cl, ap, rd, si, bg, ct, ls, hd, hk, hc, vl') → wX_applies_51 post (nI s) x y k (nI (16 * s + l.length)) lm pn wp sr sc se fl sp en pt sg el rs sn n (nI (ex_ev x y k (l.take i)).1.length) (nI (16 * s + i)) it le pe op kd nu co cl ap rd si bg ct ls hd hk hc vl) ∨
      ((ex_ev x y k l).2 = true ∧ ∀ (post : Int32 → SX → Prop) (n : Nat), r < n → post 0 (lm, pn, wp, sr, sc, se, nI s, sp, 9000000000000000002, pt, sg, el, rs, sn, it, le, pe, op, kd, nu, co, cl, ap, rd, si, bg, ct, ls, hd, hk, hc, vl') → wX_applies_51 post (nI s) x y k (nI (16 * s + l.length)) lm pn wp sr sc se fl sp en pt sg el rs sn n (nI (ex_ev x y k (l.take i)).1.length) (nI (16 * s + i)) it le pe op kd nu co cl ap rd si bg ct ls hd hk hc vl) := by
  intro r
  induction r with
  | zero =>
    intro i hi vl h1 h2
    have : i = l.length := by omega
    subst this
    rw [List.take_length] at *
    have hlen := ex_ev_len x y k l hfit
    refine ⟨vl, Or.inl ⟨h1, fun post n hn h => ?_⟩⟩
    obtain ⟨m, rfl⟩ : ∃ m, n = m + 1 := ⟨n - 1, by omega⟩
    refine br_t (Int32.le_refl _) (nm_r ?_ h)
    rw [h1g] at hlen
    generalize (ex_ev x y k l).1 = st at *
    match st, hlen, h2 with
    | [v], _, h2 => exact h2.1
  | succ r IH =>
    intro i hi vl h1 h2
    have hil : i < l.length := by omega
    have hgi : l[i]? = some l[i] := List.getElem?_eq_getElem hil
    have htk : l.take (i + 1) = l.take i ++ [l[i]] := by rw [List.take_succ, hgi]; rfl
    have hdr : l = l.take i ++ (l[i] :: l.drop (i + 1)) := by
      rw [List.getElem_cons_drop]; exact (List.take_append_drop i l).symm
    have hfa : ex_fit (l.take i) 0 := ex_fit_l _ _ _ (by rw [← hdr]; exact hfit)
    have hfb : ex_fit (l[i] :: l.drop (i + 1)) (ex_hgt (l.take i) 0) := ex_fit_r _ _ _ (by rw [← hdr]; exact hfit)
    have hlen := ex_ev_len x y k _ hfa
    have hle := ex_hgt_le (l.take i) 0
    have htl : (l.take i).length = i := by rw [List.length_take]; omega
    have hev : ex_ev x y k (l.take (i + 1)) = ex_xs x y k l[i] (ex_ev x y k (l.take i)) := by rw [htk, ex_ev_app]
    have hall : (ex_xs x y k l[i] (ex_ev x y k (l.take i))).2 = true → (ex_ev x y k l).2 = true := by
      intro hb
      have e : ex_ev x y k l = (l.drop (i + 1)).foldl (fun st t => ex_xs x y k t st) (ex_ev x y k (l.take (i + 1))) := by
        conv => lhs; rw [← List.take_append_drop (i + 1) l]
        rw [ex_ev_snoc]
      rw [e]
      exact ex_ev_br _ _ _ _ _ (by rw [hev]; exact hb)
    have hNi : ¬ nI (16 * s + l.length) ≤ nI (16 * s + i) := nI_ge (by omega) (by omega)
    have hin : vp_in (nI (16 * s + i)) 128 := vp_in_nI (by omega) (by omega)
    have ht : co (nI (16 * s + i)).toNatClampNeg = l[i] := by rw [nI_clamp (by omega)]; exact hlay i _ hgi
    have IH := IH (i + 1) (by omega)
    rw [hev] at IH
    rw [← hlen] at hfb hle
    generalize l[i] = t at *
    generalize ex_ev x y k (l.take i) = st at *
    obtain ⟨st, bb⟩ := st
    dsimp only at h1 h2 hlen hle hfb IH hall ⊢
    subst h1
    by_cases ho : ex_opd t = true
    · have e : ex_xs x y k t (st, false) = (ex_val x y k t :: st, false) := by unfold ex_xs; rw [if_pos ho]
      rw [e] at IH
      have hlt : st.length < 16 := by omega
      have hvi : vp_in (nI st.length) 16 := vp_in_nI hlt (by omega)
      obtain ⟨vl', g⟩ := IH (upd vl st.length (ex_val x y k t)) rfl (ex_stk_push _ _ _ h2)
      have hstep : ∀ (post : Int32 → SX → Prop) (m : Nat), wX_applies_51 post (nI s) x y k (nI (16 * s + l.length)) lm pn wp sr sc se fl sp en pt sg el rs sn m (nI (st.length + 1)) (nI (16 * s + i + 1)) it le pe op kd nu co cl ap rd si bg ct ls hd hk hc (upd vl st.length (ex_val x y k t)) → wX_applies_51 post (nI s) x y k (nI (16 * s + l.length)) lm pn wp sr sc se fl sp en pt sg el rs sn (m + 1) (nI st.length) (nI (16 * s + i)) it le pe op kd nu co cl ap rd si bg ct ls hd hk hc vl := by
        intro post m h
        refine br_f hNi ⟨hin, nm_r ht (xr_isOperand ?_)⟩
        rw [if_pos ho]
        have hcq : (nI st.length).toNatClampNeg = st.length := nI_clamp (by omega)
        refine br_f (by decide) (br_c (fun c => ?_) (fun c1 => br_c (fun c => ?_) (fun c2 => br_c (fun c => ?_) (fun c3 => ?_))))
        · subst c; exact ⟨hvi, nm_r (by rw [hcq]; rfl) (nm_r (nI_1 _) (nm_r (nI_1 _) h))⟩
        · subst c; exact ⟨hvi, nm_r (by rw [hcq]; rfl) (nm_r (nI_1 _) (nm_r (nI_1 _) h))⟩
        · subst c; exact ⟨hvi, nm_r (by rw [hcq]; rfl) (nm_r (nI_1 _) (nm_r (nI_1 _) h))⟩
        · exact ⟨hvi, nm_r (by rw [hcq]; unfold ex_val; rw [if_neg c1, if_neg c2, if_neg c3]) (nm_r (nI_1 _) (nm_r (nI_1 _) h))⟩
      refine ⟨vl', g.imp (fun g => ⟨g.1, fun post n hn h => ?_⟩) (fun g => ⟨g.1, fun post n hn h => ?_⟩)⟩
      all_goals
        obtain ⟨m, rfl⟩ : ∃ m, n = m + 1 := ⟨n - 1, by omega⟩
        exact hstep post m (g.2 post m (by omega) h)
    · have ho' : ex_opd t = false := by simpa using ho
      by_cases h14 : t = 14
      · subst h14
        simp only [ex_fit, ho', Bool.false_eq_true, if_false, if_true] at hfb
        match st, hfb, h2, hle, IH with
        | a :: q, hfb, h2, hle, IH =>
          have e : ex_xs x y k 14 (a :: q, false) = ((-a) :: q, false) := by unfold ex_xs; rw [if_neg ho, if_pos rfl]
          rw [e] at IH
          rw [List.length_cons] at hle
          obtain ⟨vl', g⟩ := IH (upd vl q.length (-a)) rfl (ex_stk_push _ _ _ h2.2)
          have hp : nI (q.length + 1) - 1 = nI q.length := nI_pred _
          have hvi : vp_in (nI (q.length + 1) - 1) 16 := by rw [hp]; exact vp_in_nI (by omega) (by omega)
          have hcq : (nI (q.length + 1) - 1).toNatClampNeg = q.length := by rw [hp, nI_clamp (by omega)]
          have hstep : ∀ (post : Int32 → SX → Prop) (m : Nat), wX_applies_51 post (nI s) x y k (nI (16 * s + l.length)) lm pn wp sr sc se fl sp en pt sg el rs sn m (nI (q.length + 1)) (nI (16 * s + i + 1)) it le pe op kd nu co cl ap rd si bg ct ls hd hk hc (upd vl q.length (-a)) → wX_applies_51 post (nI s) x y k (nI (16 * s + l.length)) lm pn wp sr sc se fl sp en pt sg el rs sn (m + 1) (nI (q.length + 1)) (nI (16 * s + i)) it le pe op kd nu co cl ap rd si bg ct ls hd hk hc vl := by
            intro post m h
            refine br_f hNi ⟨hin, nm_r ht (xr_isOperand ?_)⟩
            rw [if_neg ho]
            exact br_t rfl (br_t rfl ⟨hvi, hvi, nm_r (by rw [hcq, h2.1]) (nm_r (nI_1 _) h)⟩)
          refine ⟨vl', g.imp (fun g => ⟨g.1, fun post n hn h => ?_⟩) (fun g => ⟨g.1, fun post n hn h => ?_⟩)⟩
          all_goals
            obtain ⟨m, rfl⟩ : ∃ m, n = m + 1 := ⟨n - 1, by omega⟩
            exact hstep post m (g.2 post m (by omega) h)
      · simp only [ex_fit, ho', h14, Bool.false_eq_true, if_false] at hfb
        match st, hfb, h2, hle, IH, hall with
        | b :: a :: q, hfb, h2, hle, IH, hall =>
          rw [List.length_cons, List.length_cons] at hle
          have hb : vl (nI (q.length + 1)).toNatClampNeg = b := by rw [nI_clamp (by omega)]; exact h2.1
          have hvb : vp_in (nI (q.length + 1)) 16 := vp_in_nI (by omega) (by omega)
          by_cases hz : (t = 7 ∨ t = 8) ∧ b = 0
          · have e : (ex_xs x y k t (b :: a :: q, false)).2 = true := by
              unfold ex_xs; rw [if_neg ho, if_neg h14]; simp only; rw [if_pos hz]
            refine ⟨vl, Or.inr ⟨hall e, fun post n hn h => ?_⟩⟩
            obtain ⟨m, rfl⟩ : ∃ m, n = m + 1 := ⟨n - 1, by omega⟩
            refine br_f hNi ⟨hin, nm_r ht (xr_isOperand ?_)⟩
            rw [if_neg ho]
            refine br_t rfl (br_f h14 (nm_r (pk_m1 _) ⟨hvb, nm_r hb (br_t hz.2 ?_)⟩))
            rcases hz.1 with h7 | h8
            · exact br_t h7 h
            · exact br_c (fun _ => h) (fun _ => br_t h8 h)
          · have e : ex_xs x y k t (b :: a :: q, false) = (ex_cmb t a b :: q, false) := by
              unfold ex_xs; rw [if_neg ho, if_neg h14]; simp only; rw [if_neg hz]
            rw [e] at IH
            obtain ⟨vl', g⟩ := IH (upd vl q.length (ex_cmb t a b)) rfl (ex_stk_push _ _ _ h2.2.2)
            have hp : nI (q.length + 1) - 1 = nI q.length := nI_pred _
            have hvi : vp_in (nI (q.length + 1) - 1) 16 := by rw [hp]; exact vp_in_nI (by omega) (by omega)
            have hcq : (nI (q.length + 1) - 1).toNatClampNeg = q.length := by rw [hp, nI_clamp (by omega)]
            have hstep : ∀ (post : Int32 → SX → Prop) (m : Nat), wX_applies_51 post (nI s) x y k (nI (16 * s + l.length)) lm pn wp sr sc se fl sp en pt sg el rs sn m (nI (q.length + 1)) (nI (16 * s + i + 1)) it le pe op kd nu co cl ap rd si bg ct ls hd hk hc (upd vl q.length (ex_cmb t a b)) → wX_applies_51 post (nI s) x y k (nI (16 * s + l.length)) lm pn wp sr sc se fl sp en pt sg el rs sn (m + 1) (nI (q.length + 1 + 1)) (nI (16 * s + i)) it le pe op kd nu co cl ap rd si bg ct ls hd hk hc vl := by
              intro post m h
              refine br_f hNi ⟨hin, nm_r ht (xr_isOperand ?_)⟩
              rw [if_neg ho]
              have ha : vl (nI (q.length + 1) - 1).toNatClampNeg = a := by rw [hcq]; exact h2.2.1
              have h199 : wX_applies_199 post (wX_applies_51 post (nI s) x y k (nI (16 * s + l.length)) lm pn wp sr sc se fl sp en pt sg el rs sn m) (nI s) x y k (nI (16 * s + l.length)) (nI (q.length + 1)) (nI (16 * s + i)) t b lm pn wp sr sc se fl sp en pt sg el rs sn it le pe op kd nu co cl ap rd si bg ct ls hd hk hc vl := by
                refine ⟨hvi, ?_⟩
                rw [ha]
                refine xr_combine (fun h78 hb0 => hz ⟨h78, hb0⟩) ⟨hvi, nm_r ?_ (nm_r (nI_1 _) h)⟩
                rw [hcq]
              refine br_t rfl (br_f h14 (nm_r (pk_m1 _) ⟨hvb, nm_r hb (br_c (fun hb0 => ?_) (fun _ => h199))⟩))
              exact br_f (fun h7 => hz ⟨Or.inl h7, hb0⟩) (br_f (fun h8 => hz ⟨Or.inr h8, hb0⟩) h199)
            refine ⟨vl', g.imp (fun g => ⟨g.1, fun post n hn h => ?_⟩) (fun g => ⟨g.1, fun post n hn h => ?_⟩)⟩
            all_goals
              obtain ⟨m, rfl⟩ : ∃ m, n = m + 1 := ⟨n - 1, by omega⟩
              exact hstep post m (g.2 post m (by omega) h)
end
