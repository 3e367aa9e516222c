/-! part 08: what the steps of a turn do to the relation's parts: pure -/
section INV
variable {h sp ch bl yn : Int32} {co on ba ra gu se si st la pu ps sc he xb xc xi xf xa xe tc ts ta bc bs bm pb ou yb yl yf ya ys ye zf za zs ze wy pt su bb bu : Nat → Int32}
theorem cw_E_la (hE : cw_E st la ps pb si) {c l : Nat} (hl : l < 12) : cw_E st (upd la c (nI l)) ps pb si := by
  intro c' hc'
  refine ⟨?_, (hE c' hc').2⟩
  by_cases e : c' = c
  · subst e
    exact ⟨l, hl, pk_us⟩
  · rw [pk_un e]
    exact (hE c' hc').1
theorem cw_F_nb (hF : cw_F xb yb) {c l : Nat} (hc : c < 8) (hl : l < 11) : cw_F (cw_nb xb (13 * c + l) (13 * c + l + 1)) (cw_nb yb (12 * c + l) (12 * c + l + 1)) := by
  unfold cw_nb
  refine cw_F_put (c := c) (k := l + 1) (s := 1) (cw_F_put (c := c) (k := l + 1) (s := 0) hF hc (by omega) (by omega) (by omega) (by omega) (hF c l 0 hc (by omega) (by omega))) hc (by omega) (by omega) (by omega) (by omega) (hF c l 1 hc (by omega) (by omega))
theorem cw_F_end (hF : cw_F xb yb) {c l s : Nat} {z : Int32} (hc : c < 8) (hl : l < 11) (hs : s < 2) : cw_F (upd (cw_nb xb (13 * c + l) (13 * c + l + 1)) (2 * (13 * c + l + 1) + s) (cw_nb xb (13 * c + l) (13 * c + l + 1) (2 * (13 * c + l + 1) + s) + z)) (upd (cw_nb yb (12 * c + l) (12 * c + l + 1)) (2 * (12 * c + l + 1) + s) (cw_nb yb (12 * c + l) (12 * c + l + 1) (2 * (12 * c + l + 1) + s) + z)) := by
  have h := cw_F_nb hF hc hl
  refine cw_F_put (c := c) (k := l + 1) (s := s) h hc (by omega) hs (by omega) (by omega) ?_
  rw [show 2 * (12 * c + l + 1) + s = 2 * (12 * c + (l + 1)) + s by omega, h c (l + 1) s hc (by omega) hs, show 2 * (13 * c + (l + 1)) + s = 2 * (13 * c + l + 1) + s by omega]
theorem cw_G_end (hG : cw_G sp xf xa xe xc xi yl yf ya ys ye) {c l j m : Nat} (hc : c < 8) (hl : l < 11) (hj : j ≤ m) (hm : m ≤ 2) (en : xc (13 * c + l) = nI (m + 1)) :
    cw_G sp xf xa xe (upd (upd xc (13 * c + l + 1) (xc (13 * c + l))) (13 * c + l + 1) (nI m)) (cw_shf (cw_cp2 xi xi (3 * (13 * c + l)) (3 * (13 * c + l + 1)) 3) (3 * (13 * c + l + 1) + j) (3 * (13 * c + l + 1) + 2)) (upd (upd yl (12 * c + l + 1) (nI (m + 1))) (12 * c + l + 1) (nI m))
      (cw_shf (cw_cp2 yf yf (3 * (12 * c + l)) (3 * (12 * c + l + 1)) (m + 1)) (3 * (12 * c + l + 1) + j) (3 * (12 * c + l + 1) + m)) (cw_shf (cw_cp2 ya ya (3 * (12 * c + l)) (3 * (12 * c + l + 1)) (m + 1)) (3 * (12 * c + l + 1) + j) (3 * (12 * c + l + 1) + m))
      (cw_shf (cw_cp2 ys ys (3 * (12 * c + l)) (3 * (12 * c + l + 1)) (m + 1)) (3 * (12 * c + l + 1) + j) (3 * (12 * c + l + 1) + m)) (cw_shf (cw_cp2 ye ye (3 * (12 * c + l)) (3 * (12 * c + l + 1)) (m + 1)) (3 * (12 * c + l + 1) + j) (3 * (12 * c + l + 1) + m)) := by
  have hr := hG c l hc (by omega)
  rw [en] at hr
  refine cw_G_put hG (c0 := c) (k0 := l + 1) hc (by omega) (fun i hi => by rw [pk_un (by omega), pk_un (by omega)]) (fun i hi => by rw [pk_un (by omega), pk_un (by omega)])
    (fun i hi => by rw [cw_shf_out _ (by omega) (by omega), cw_cp2_out _ _ (by omega) (by omega)])
    (fun i hi => ⟨by rw [cw_shf_out _ (by omega) (by omega), cw_cp2_out _ _ (by omega) (by omega)], by rw [cw_shf_out _ (by omega) (by omega), cw_cp2_out _ _ (by omega) (by omega)], by rw [cw_shf_out _ (by omega) (by omega), cw_cp2_out _ _ (by omega) (by omega)], by rw [cw_shf_out _ (by omega) (by omega), cw_cp2_out _ _ (by omega) (by omega)]⟩) ?_
  rw [pk_us' (show 13 * c + (l + 1) = 13 * c + l + 1 by omega), pk_us' (show 12 * c + (l + 1) = 12 * c + l + 1 by omega)]
  exact cw_Row_rem (j0 := j) hr (by omega) (fun i hi => cw_rem_cp xi (by omega) (by omega)) (fun i hi => cw_rem_cp yf (by omega) (by omega)) (fun i hi => cw_rem_cp ya (by omega) (by omega)) (fun i hi => cw_rem_cp ys (by omega) (by omega)) (fun i hi => cw_rem_cp ye (by omega) (by omega))
theorem cw_O_end (hO : cw_O sp xf xa xe xc xi st ou zf za zs ze) {c l j m : Nat} (hc : c < 8) (hl : l < 11) (hj : j ≤ 2) :
    cw_O sp xf xa xe (upd (upd xc (13 * c + l + 1) (xc (13 * c + l))) (13 * c + l + 1) (nI m)) (cw_shf (cw_cp2 xi xi (3 * (13 * c + l)) (3 * (13 * c + l + 1)) 3) (3 * (13 * c + l + 1) + j) (3 * (13 * c + l + 1) + 2)) st ou zf za zs ze :=
  cw_O_frame hO (fun c' hc' => by rw [pk_un (by omega), pk_un (by omega)]) (fun c' i hc' hi => by rw [cw_shf_out _ (by omega) (by omega), cw_cp2_out _ _ (by omega) (by omega)])
theorem cw_G_show (hG : cw_G sp xf xa xe xc xi yl yf ya ys ye) {c k : Nat} {z : Int32} (hc : c < 8) : cw_G sp xf xa xe (upd xc (13 * c + 12) z) (cw_cp2 xi xi (3 * (13 * c + k)) (3 * (13 * c + 12)) 3) yl yf ya ys ye :=
  cw_G_frame hG (fun c' k' hc' hk' => by rw [pk_un (by omega)]) (fun c' k' i hc' hk' hi => by rw [cw_cp2_out _ _ (by omega) (by omega)])
theorem cw_O_show (hG : cw_G sp xf xa xe xc xi yl yf ya ys ye) (hO : cw_O sp xf xa xe xc xi st ou zf za zs ze) {c k n : Nat} (hc : c < 8) (hk : k < 12) (hn : n ≤ 3) (en : xc (13 * c + k) = nI n) :
    cw_O sp xf xa xe (upd xc (13 * c + 12) (xc (13 * c + k))) (cw_cp2 xi xi (3 * (13 * c + k)) (3 * (13 * c + 12)) 3) (upd st c 1) (upd ou c (nI n)) (cw_cp2 yf zf (3 * (12 * c + k)) (3 * c) n) (cw_cp2 ya za (3 * (12 * c + k)) (3 * c) n) (cw_cp2 ys zs (3 * (12 * c + k)) (3 * c) n) (cw_cp2 ye ze (3 * (12 * c + k)) (3 * c) n) := by
  refine cw_O_put hO hc (fun i hi => pk_un hi) (fun i hi => pk_un hi) (fun i hi => pk_un hi) (fun i hi => cw_cp2_out _ _ (by omega) (by omega)) (fun i hi => ⟨cw_cp2_out _ _ (by omega) (by omega), cw_cp2_out _ _ (by omega) (by omega), cw_cp2_out _ _ (by omega) (by omega), cw_cp2_out _ _ (by omega) (by omega)⟩) ⟨?_, ?_⟩
  · rw [pk_us, pk_us]
    have hr := hG c k hc hk
    have hy : yl (12 * c + k) = nI n := by
      obtain ⟨m, hm, e1, e2, _⟩ := hr
      rw [e2, ← e1, en]
    rw [hy] at hr
    refine cw_Row_move hr (fun j hj => cw_cp2_in _ _ hj) (fun j m hj hm e => ?_)
    rw [en] at e
    have : n = m := (nI_eq (by omega) (by omega)).mp e
    subst this
    exact ⟨cw_cp2_in _ _ hj, cw_cp2_in _ _ hj, cw_cp2_in _ _ hj, cw_cp2_in _ _ hj⟩
  · intro z
    rw [pk_us] at z
    exact absurd rfl z
theorem cw_E_show (hE : cw_E st la ps pb si) {c s : Nat} (hs : s < 2) : cw_E (upd st c 1) la (upd ps c (nI s)) (upd pb c (si (2 * c + s))) si := by
  intro c' hc'
  by_cases e : c' = c
  · subst e
    rw [pk_us, pk_us, pk_us]
    exact ⟨(hE c' hc').1, Or.inr (Or.inl rfl), s, hs, rfl, fun _ => rfl⟩
  · rw [pk_un e, pk_un e, pk_un e]
    exact hE c' hc'
theorem cw_S_show {H c : Nat} (hS : cw_S H sc) : cw_S H (upd sc c (nI H)) := by
  intro c' hc'
  by_cases e : c' = c
  · subst e
    exact ⟨H, Nat.le_refl _, pk_us⟩
  · rw [pk_un e]
    exact hS c' hc'
theorem cw_Z_put {C c : Nat} {z : Int32} (hZ : cw_Z C st) (hc : c < C) : cw_Z C (upd st c z) := by
  intro c' h1 h2
  rw [pk_un (by omega)]
  exact hZ c' h1 h2
end INV
