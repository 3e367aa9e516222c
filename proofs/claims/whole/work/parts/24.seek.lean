/-! part 24: the reference's search by depth -/
section SEEK
variable {h sp ch bl yn : Int32} {co on ba ra gu se si st la pu ps sc he xb xc xi xf xa xe tc ts ta bc bs bm pb ou yb yl yf ya ys ye zf za zs ze wy pt su bb bu : Nat → Int32}
theorem cw_s1a (e : Nat) : nI e - 1 + 1 = nI e := Int32.sub_add_cancel (nI e) 1
theorem cw_s1p (e : Nat) : nI e = nI (e + 1) - 1 := (nI_pred e).symm
theorem ys_seek {post : Int32 → SY → Prop} {C p q : Nat} {v : Int32} {Inv : Nat → Int32 → Int32 → (Nat → Int32) → (Nat → Int32) → Prop} (hC : C ≤ 8) (hsi : ∀ i, i < 16 → ∃ a, a < 6 ∧ si i = nI a) (hp : p < 6) (hq : q < 6)
    (hmono : ∀ N N' mo yn bb bu, N ≤ N' → (∀ w n, ro_lead (cw_nt 16 si) C (cw_rd st on si) p q w n → N ≤ ro_num w n → ro_num w n < N' → False) → Inv N mo yn bb bu → Inv N' mo yn bb bu)
    (hreach : ∀ (w : Nat → Nat) (n N N' : Nat) (mo yn : Int32) (wy pt su bb bu : Nat → Int32), ro_lead (cw_nt 16 si) C (cw_rd st on si) p q w n → N ≤ ro_num w n → ro_num w n < N' → (∀ w' n', ro_lead (cw_nt 16 si) C (cw_rd st on si) p q w' n' → N ≤ ro_num w' n' → ro_num w' n' < N' → n' = n ∧ ∀ i, i < n' → w' i = w i) →
      (∀ i, i < n → wy i = nI (w i)) → (∀ i, i ≤ n → pt i = nI (ro_pt (cw_nt 16 si) w p i)) → Inv N mo yn bb bu →
      ∀ post : Int32 → SY → Prop, (∀ (mo yn : Int32) (su bb bu : Nat → Int32), Inv N' mo yn bb bu → post mo (h, sp, nI C, yn, co, ba, ra, gu, se, on, si, st, la, pu, pb, sc, he, ou, yb, yl, yf, ya, ys, ye, zf, za, zs, ze, wy, pt, su, bb, bu)) → wpY_reached post (h, sp, nI C, yn, co, ba, ra, gu, se, on, si, st, la, pu, pb, sc, he, ou, yb, yl, yf, ya, ys, ye, zf, za, zs, ze, wy, pt, su, bb, bu) (nI n) v mo)
    (h0 : ∀ bb bu, Inv 1000 0 0 bb bu)
    (H : ∀ (N : Nat) (mo yn : Int32) (wy pt su bb bu : Nat → Int32), Inv N mo yn bb bu → (∀ w n, ro_lead (cw_nt 16 si) C (cw_rd st on si) p q w n → N ≤ ro_num w n → False) → post mo (h, sp, nI C, yn, co, ba, ra, gu, se, on, si, st, la, pu, pb, sc, he, ou, yb, yl, yf, ya, ys, ye, zf, za, zs, ze, wy, pt, su, bb, bu)) : wpY_seek post (h, sp, nI C, yn, co, ba, ra, gu, se, on, si, st, la, pu, pb, sc, he, ou, yb, yl, yf, ya, ys, ye, zf, za, zs, ze, wy, pt, su, bb, bu) (nI p) (nI q) v := by
  have sd6 : ∀ i, cw_nt 16 si i < 6 := cw_nt_lt (by omega) (by omega) hsi
  have L : ∀ f d e (w : Nat → Nat) (mo yn : Int32) (wy pt su bb bu : Nat → Int32), d ≤ 3 → (∀ i, i < d → w i < C) → e ≤ C → ro_walk (cw_nt 16 si) C (cw_rd st on si) w p d → (∀ i, i < d → wy i = nI (w i)) → wy d = nI e - 1 → (∀ i, i ≤ d → pt i = nI (ro_pt (cw_nt 16 si) w p i)) → Inv (ro_N w d e) mo yn bb bu → 10001 - ro_N w d e < f →
      wY_seek_25 post (nI q) v f mo (nI d) h sp (nI C) yn co ba ra gu se on si st la pu pb sc he ou yb yl yf ya ys ye zf za zs ze wy pt su bb bu := by
    intro f
    induction f with
    | zero => intro d e w mo yn wy pt su bb bu _ _ _ _ _ _ _ _ hf; omega
    | succ f ih =>
      intro d e w mo yn wy pt su bb bu hd hw hee hwk hwy hwd hpt hI hf
      have hNm := ro_N_max (w := w) hd (fun i hi => by have := hw i hi; omega) (show e ≤ 8 by omega)
      have q0 : ¬ nI d < 0 := nI_pos (by omega)
      rw [wY_seek_25]
      simp (disch := omega) only [q0, cw_m2, cw_m3, cw_m4, cw_m13, cw_2m, cw_3m, cw_12m, cw_24m, cw_36m, cw_a12, cw_a3, nI_add, nI_1, pk_sub, nI_clamp, vp_in_nI, hwd, cw_s1a, pk_us, forall_eq, nI_leI, nI_ltI, nI_eq, true_implies, forall_const, not_true_eq_false, not_false_eq_true, false_implies, and_true, true_and, implies_true, and_self, reduceIte]
      by_cases heC : e < C
      · -- the channel e is tried
        refine br_t heC ?_
        have w'e : ro_set w d e d = e := ro_set_s w d e
        have w'n : ∀ i, i < d → ro_set w d e i = w i := fun i hi => ro_set_n w (by omega)
        have w'7 : ∀ i, i < d + 1 → ro_set w d e i ≤ 7 := by
          intro i hi
          rcases Nat.lt_or_ge i d with h' | h'
          · rw [w'n i h']; have := hw i h'; omega
          · have : i = d := by omega
            subst this
            rw [w'e]; omega
        have w'C : ∀ i, i < d + 1 → ro_set w d e i < C := by
          intro i hi
          rcases Nat.lt_or_ge i d with h' | h'
          · rw [w'n i h']; exact hw i h'
          · have : i = d := by omega
            subst this
            rw [w'e]; omega
        have ptc : ∀ i, i ≤ d → ro_pt (cw_nt 16 si) w p i = ro_pt (cw_nt 16 si) (ro_set w d e) p i := ro_pt_c (cw_nt 16 si) (fun i hi => (w'n i hi).symm)
        have hpt' : ∀ i, i ≤ d → pt i = nI (ro_pt (cw_nt 16 si) (ro_set w d e) p i) := fun i hi => by rw [← ptc i hi]; exact hpt i hi
        have hwk' : ∀ i, i < d → ro_hop (cw_nt 16 si) C (cw_rd st on si) (ro_set w d e) p i := fun i hi => ro_hop_c (cw_nt 16 si) C (cw_rd st on si) (fun j hj => (w'n j (by omega)).symm) (hwk i hi)
        have eN : ro_N w d e = ro_N (ro_set w d e) d (ro_set w d e d) := by rw [w'e]; exact ro_N_c hd (fun i hi => (w'n i hi).symm)
        have eN1 : ro_N w d (e + 1) = ro_N (ro_set w d e) d (ro_set w d e d + 1) := by rw [w'e]; exact ro_N_c hd (fun i hi => (w'n i hi).symm)
        have hlt : ro_N w d e < ro_N w d (e + 1) := ro_N_lt hd (by omega)
        have hwy1 : ∀ i, i < d → upd wy d (nI e) i = nI (w i) := fun i hi => by rw [pk_un (by omega)]; exact hwy i hi
        have next : ∀ (mo yn : Int32) (pt su bb bu : Nat → Int32), (∀ i, i ≤ d → pt i = nI (ro_pt (cw_nt 16 si) w p i)) → Inv (ro_N w d (e + 1)) mo yn bb bu → wY_seek_25 post (nI q) v f mo (nI d) h sp (nI C) yn co ba ra gu se on si st la pu pb sc he ou yb yl yf ya ys ye zf za zs ze (upd wy d (nI e)) pt su bb bu :=
          fun mo yn pt su bb bu hpt hI => ih d (e + 1) w mo yn (upd wy d (nI e)) pt su bb bu hd hw (by omega) hwk hwy1 (by rw [pk_us]; exact cw_s1p e) hpt hI (by omega)
        have B := fun (P : Int32 → Prop) (H1 : ro_hop (cw_nt 16 si) C (cw_rd st on si) (ro_set w d e) p d → P (nI (ro_pt (cw_nt 16 si) (ro_set w d e) p (d + 1)))) (H0 : ¬ ro_hop (cw_nt 16 si) C (cw_rd st on si) (ro_set w d e) p d → P (-1)) =>
          ys_behind (h := h) (sp := sp) (yn := yn) (co := co) (on := on) (ba := ba) (ra := ra) (gu := gu) (se := se) (si := si) (st := st) (la := la) (pu := pu) (sc := sc) (he := he) (pb := pb) (ou := ou) (yb := yb) (yl := yl) (yf := yf) (ya := ya) (ys := ys) (ye := ye) (zf := zf) (za := za) (zs := zs) (ze := ze) (wy := upd wy d (nI e)) (pt := pt) (su := su) (bb := bb) (bu := bu) (post := P) hC hsi hd hp (by rw [w'e]; exact heC) hpt' H1 H0
        rw [w'e] at B
        refine B _ (fun hhop => ?_) (fun hno => ?_)
        · have p6 := ro_pt_lt (cw_nt 16 si) (w := ro_set w d e) sd6 hp (d + 1)
          refine br_t (nI_pos' (by omega)) ?_
          have hwkd : ro_walk (cw_nt 16 si) C (cw_rd st on si) (ro_set w d e) p (d + 1) := by
            intro i hi
            rcases Nat.lt_or_ge i d with h' | h'
            · exact hwk' i h'
            · have : i = d := by omega
              subst this
              exact hhop
          have hpt2 : ∀ i, i ≤ d + 1 → upd pt (d + 1) (nI (ro_pt (cw_nt 16 si) (ro_set w d e) p (d + 1))) i = nI (ro_pt (cw_nt 16 si) (ro_set w d e) p i) := by
            intro i hi
            by_cases e' : i = d + 1
            · subst e'
              exact pk_us
            · rw [pk_un e']
              exact hpt' i (by omega)
          have hpt3 : ∀ i, i ≤ d → upd pt (d + 1) (nI (ro_pt (cw_nt 16 si) (ro_set w d e) p (d + 1))) i = nI (ro_pt (cw_nt 16 si) w p i) := fun i hi => by
            rw [pk_un (by omega)]
            exact hpt i hi
          have hwy2 : ∀ i, i < d + 1 → upd wy d (nI e) i = nI (ro_set w d e i) := by
            intro i hi
            by_cases e' : i = d
            · subst e'
              rw [pk_us, w'e]
            · rw [pk_un e', w'n i (by omega)]
              exact hwy i (by omega)
          by_cases hto : ro_pt (cw_nt 16 si) (ro_set w d e) p (d + 1) = q
          · have heq : nI (ro_pt (cw_nt 16 si) (ro_set w d e) p (d + 1)) = nI q := by rw [hto]
            have hlead : ro_lead (cw_nt 16 si) C (cw_rd st on si) p q (ro_set w d e) (d + 1) := ⟨by omega, by omega, hwkd, hto⟩
            simp (disch := omega) only [cw_m2, cw_m3, cw_m4, cw_m13, cw_2m, cw_3m, cw_12m, cw_24m, cw_36m, cw_a12, cw_a3, nI_add, nI_1, pk_sub, nI_clamp, vp_in_nI, forall_eq, nI_leI, nI_ltI, nI_eq, true_implies, forall_const, not_true_eq_false, not_false_eq_true, false_implies, and_true, true_and, implies_true, and_self, reduceIte]
            refine br_t hto ?_
            refine hreach (ro_set w d e) (d + 1) (ro_N w d e) (ro_N w d (e + 1)) mo yn _ _ su bb bu hlead (by rw [ro_num_N hd, ← eN]; exact Nat.le_refl _) (by rw [ro_num_N hd, ← eN]; exact hlt) (fun w2 n2 hl2 h1 h2 => ?_) hwy2 hpt2 hI _ (fun mo yn su bb bu hI' => next mo yn _ su bb bu hpt3 hI')
            rw [eN] at h1
            rw [eN1] at h2
            exact ro_dfs_found (cw_nt 16 si) C (cw_rd st on si) hC hd w'7 hto hl2 h1 h2
          · simp (disch := omega) only [cw_m2, cw_m3, cw_m4, cw_m13, cw_2m, cw_3m, cw_12m, cw_24m, cw_36m, cw_a12, cw_a3, nI_add, nI_1, pk_sub, nI_clamp, vp_in_nI, cw_le3, forall_eq, nI_leI, nI_ltI, nI_eq, true_implies, forall_const, not_true_eq_false, not_false_eq_true, false_implies, and_true, true_and, implies_true, and_self, reduceIte]
            refine br_f hto ?_
            by_cases hd3 : 3 ≤ d
            · have d3 : d = 3 := by omega
              refine br_t hd3 (next mo yn _ su bb bu hpt3 (hmono _ _ mo yn bb bu (Nat.le_of_lt hlt) (fun w2 n2 hl2 h1 h2 => ?_) hI))
              rw [eN] at h1
              rw [eN1] at h2
              subst d3
              exact ro_dfs_leaf (cw_nt 16 si) C (cw_rd st on si) hC w'7 hto hl2 h1 h2
            · refine br_f hd3 ?_
              have hlt' : ro_N w d e < ro_N (ro_set w d e) (d + 1) 0 := by rw [eN]; exact ro_N_desc (by omega)
              refine ih (d + 1) 0 (ro_set w d e) mo yn _ _ su bb bu (by omega) w'C (by omega) hwkd (fun i hi => ?_) (by rw [pk_us]; rfl) hpt2 (hmono _ _ mo yn bb bu (Nat.le_of_lt hlt') (fun w2 n2 hl2 h1 h2 => ?_) hI) (by omega)
              · rw [pk_un (by omega)]
                exact hwy2 i hi
              · rw [eN] at h1
                exact ro_dfs_desc (cw_nt 16 si) C (cw_rd st on si) hC (by omega) w'7 hto hl2 h1 h2
        · refine br_f cw_neg1 (next mo yn pt su bb bu hpt (hmono _ _ mo yn bb bu (Nat.le_of_lt hlt) (fun w2 n2 hl2 h1 h2 => ?_) hI))
          rw [eN] at h1
          rw [eN1] at h2
          exact ro_dfs_skip (cw_nt 16 si) C (cw_rd st on si) hC hd w'7 hno hl2 h1 h2
      · -- no channel left at this depth
        refine br_f heC ?_
        have heC' : C ≤ e := by omega
        cases d with
        | zero =>
          cases f with
          | zero => omega
          | succ f =>
            have em : nI 0 + (-1) < 0 := by decide
            rw [wY_seek_25]
            refine br_t em (H (ro_N w 0 e) mo yn _ pt su bb bu hI (fun w2 n2 hl2 h1 => ?_))
            exact ro_dfs_end (cw_nt 16 si) C (cw_rd st on si) hC (by omega) heC' hl2 h1
        | succ d =>
          have hlt' : ro_N w (d + 1) e < ro_N w d (w d + 1) := ro_N_back hd (by omega)
          rw [pk_m1]
          refine ih d (w d + 1) w mo yn _ pt su bb bu (by omega) (fun i hi => hw i (by omega)) (by have := hw d (by omega); omega) (fun i hi => hwk i (by omega)) (fun i hi => ?_) ?_ (fun i hi => hpt i (by omega)) (hmono _ _ mo yn bb bu (Nat.le_of_lt hlt') (fun w2 n2 hl2 h1 h2 => ?_) hI) (by omega)
          · rw [pk_un (by omega)]
            exact hwy i (by omega)
          · rw [pk_un (by omega), hwy d (by omega)]
            exact cw_s1p (w d)
          · exact ro_dfs_back (cw_nt 16 si) C (cw_rd st on si) hC hd (fun i hi => by have := hw i hi; omega) (by omega) heC' hl2 h1 h2
  unfold wpY_seek
  dsimp only
  refine nm_e (nm_e ⟨10002, ?_⟩)
  refine L 10002 0 0 (fun _ => 0) 0 0 _ _ su bb bu (by omega) (fun i hi => by omega) (by omega) (fun i hi => by omega) (fun i hi => by omega) (by rw [pk_us]; rfl) (fun i hi => ?_) (by rw [ro_N00]; exact h0 bb bu) (by rw [ro_N00]; omega)
  have : i = 0 := by omega
  subst this
  rw [pk_us]
  rfl
end SEEK
