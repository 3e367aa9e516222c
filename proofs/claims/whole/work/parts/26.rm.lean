/-! part 26: route, most -/
section RM
variable {h sp ch bl yn : Int32} {co on ba ra gu se si st la pu ps sc he xb xc xi xf xa xe tc ts ta bc bs bm pb ou yb yl yf ya ys ye zf za zs ze wy pt su bb bu : Nat → Int32}
def cw_ask (v1 v2 v3 : Int32) : Prop := ∃ p q v, p < 6 ∧ q < 6 ∧ p ≠ q ∧ 1 ≤ v ∧ v ≤ 255 ∧ v1 = nI p ∧ v2 = nI q ∧ v3 = nI v
theorem cw_ask0 {v1 v2 v3 : Int32} (a0 : ¬ v1 < 0) (a6 : ¬ 6 ≤ v1) (b0 : ¬ v2 < 0) (b6 : ¬ 6 ≤ v2) (ab : ¬ v1 = v2) (c0 : ¬ v3 < 1) (c1 : ¬ 255 < v3) : cw_ask v1 v2 v3 := by
  obtain ⟨p, hp, rfl⟩ := cw_pty a0 (Int32.not_le.mp a6)
  obtain ⟨q, hq, rfl⟩ := cw_pty b0 (Int32.not_le.mp b6)
  have d0 : ¬ v3 < 0 := fun z => c0 (Int32.lt_of_lt_of_le z (by decide))
  obtain ⟨v, hv, rfl⟩ := nI_of d0
  rw [cw_tl1 hv] at c0
  rw [cw_lt255 hv] at c1
  exact ⟨p, q, v, hp, hq, fun z => ab (by rw [z]), by omega, by omega, rfl, rfl, rfl⟩
theorem cw_ask1 {v1 v2 v3 : Int32} (h : cw_ask v1 v2 v3) : ¬ v1 < 0 ∧ ¬ 6 ≤ v1 ∧ ¬ v2 < 0 ∧ ¬ 6 ≤ v2 ∧ ¬ v1 = v2 ∧ ¬ v3 < 1 ∧ ¬ 255 < v3 ∧ ¬ v3 ≤ 0 ∧ ¬ 256 ≤ v3 := by
  obtain ⟨p, q, v, hp, hq, hpq, h1, h2, rfl, rfl, rfl⟩ := h
  rw [cw_le6 (by omega), cw_le6 (by omega), nI_eq (by omega) (by omega), cw_tl1 (by omega), cw_lt255 (by omega), cw_el0 (by omega), cw_le256 (by omega)]
  exact ⟨nI_pos (by omega), by omega, nI_pos (by omega), by omega, hpq, by omega, by omega, by omega, by omega⟩
theorem xs_isPay {post : Int32 → Prop} {v1 v2 v3 : Int32} (h1 : cw_ask v1 v2 v3 → post 1) (h0 : ¬ cw_ask v1 v2 v3 → post 0) : wpX_isPayment post (h, sp, ch, bl, co, on, ba, ra, gu, se, si, st, la, pu, ps, sc, he, xb, xc, xi, xf, xa, xe, tc, ts, ta, bc, bs, bm) v1 v2 v3 := by
  by_cases q : cw_ask v1 v2 v3
  · obtain ⟨a0, a6, b0, b6, ab, c0, c1, _, _⟩ := cw_ask1 q
    simp only [wpX_isPayment, wpX_isParty, a0, a6, b0, b6, ab, c0, c1, cw_n1, forall_eq, nI_leI, nI_ltI, nI_eq, true_implies, forall_const, not_true_eq_false, not_false_eq_true, false_implies, and_true, true_and, implies_true, and_self, reduceIte]
    exact h1 q
  · have z := h0 q
    simp only [wpX_isPayment, wpX_isParty]
    refine br_c (fun _ => br_t trivial z) (fun a0 => br_c (fun _ => br_t trivial z) (fun a6 => br_f cw_n1 (br_c (fun _ => br_t trivial z) (fun b0 => br_c (fun _ => br_t trivial z) (fun b6 => br_f cw_n1 (br_c (fun _ => z) (fun ab => br_c (fun _ => z) (fun c0 => br_c (fun _ => z) (fun c1 => absurd (cw_ask0 a0 a6 b0 b6 ab c0 c1) q)))))))))
theorem ys_isAsk {post : Int32 → Prop} {v1 v2 v3 : Int32} (h1 : cw_ask v1 v2 v3 → post 1) (h0 : ¬ cw_ask v1 v2 v3 → post 0) : wpY_isAsked post (h, sp, ch, yn, co, ba, ra, gu, se, on, si, st, la, pu, pb, sc, he, ou, yb, yl, yf, ya, ys, ye, zf, za, zs, ze, wy, pt, su, bb, bu) v1 v2 v3 := by
  by_cases q : cw_ask v1 v2 v3
  · obtain ⟨a0, a6, b0, b6, ab, _, _, c0, c1⟩ := cw_ask1 q
    simp only [wpY_isAsked, wpY_isParty, a0, a6, b0, b6, ab, c0, c1, cw_n1, forall_eq, nI_leI, nI_ltI, nI_eq, true_implies, forall_const, not_true_eq_false, not_false_eq_true, false_implies, and_true, true_and, implies_true, and_self, reduceIte]
    exact h1 q
  · have z := h0 q
    simp only [wpY_isAsked, wpY_isParty]
    refine br_c (fun _ => br_t trivial z) (fun a0 => br_c (fun _ => br_t trivial z) (fun a6 => br_f cw_n1 (br_c (fun _ => br_t trivial z) (fun b0 => br_c (fun _ => br_t trivial z) (fun b6 => br_f cw_n1 (br_c (fun _ => z) (fun ab => br_c (fun _ => z) (fun c0 => br_c (fun _ => z) (fun c1 => absurd (cw_ask0 a0 a6 b0 b6 ab ?_ ?_) q)))))))))
    · intro y
      refine c0 ?_
      rw [Int32.le_iff_toInt_le]
      rw [Int32.lt_iff_toInt_lt] at y
      have e1 : (1 : Int32).toInt = 1 := by decide
      have e0 : (0 : Int32).toInt = 0 := by decide
      omega
    · intro y
      refine c1 ?_
      rw [Int32.le_iff_toInt_le]
      rw [Int32.lt_iff_toInt_lt] at y
      have e1 : (255 : Int32).toInt = 255 := by decide
      have e0 : (256 : Int32).toInt = 256 := by decide
      omega
/-- both searches, one route -/
theorem cw_same {C p q v m m' : Nat} {b b' : Nat → Nat} {bl yn : Int32} (hC : C ≤ 8)
    (h : ro_min (cw_nt 16 si) (cw_nt 6 ba) (cw_nt 6 ra) C (cw_rd st on si) (cw_ca la xc xb) p q v ro_code (fun _ _ => True) b m) (hb : xr_B (cw_nt 16 si) (cw_nt 6 ba) (cw_nt 6 ra) p v b m bl bc bs bm)
    (h' : ro_min (cw_nt 16 si) (cw_nt 6 ba) (cw_nt 6 ra) C (cw_rd st on si) (cw_ca la xc xb) p q v ro_num (fun _ _ => True) b' m') (hb' : yr_B (cw_nt 16 si) (cw_nt 6 ba) (cw_nt 6 ra) p v b' m' yn bb bu) :
    bl = nI m ∧ yn = nI m ∧ m ≤ 4 ∧ ∀ i, i < m → bb i = bc i ∧ bu i = bm i := by
  obtain ⟨rfl, he⟩ := ro_min_one (cw_nt 16 si) (cw_nt 6 ba) (cw_nt 6 ra) C (cw_rd st on si) (cw_ca la xc xb) hC h h'
  refine ⟨hb.1, hb'.1, hb.2.1, fun i hi => ?_⟩
  obtain ⟨x1, x2, x3⟩ := hb.2.2 i hi
  obtain ⟨y1, y2⟩ := hb'.2.2 i hi
  rw [x1, x3, y1, y2, he i hi, ro_am_c (cw_nt 16 si) (cw_nt 6 ba) (cw_nt 6 ra) he (m - 1 - i) (by omega)]
  exact ⟨rfl, rfl⟩
theorem i_vc_route {k : Nat} {u : SX} {v : SY} (I : i_Rel k u v) (hk : k + 5 ≤ 2560) (v1 : Int32) (v2 : Int32) (v3 : Int32) (v4 : Int32) : wpX_route (fun r u' => wpY_route (fun r' v' => r' = r ∧ i_Rel (k + 5) u' v') v v1 v2 v3 v4) u v1 v2 v3 v4 := by
  have J := i_up I
  obtain ⟨H, C, sp, on, ba, ra, gu, si, xf, xa, xe, hH, hB, hD, bl, yn, co, se, st, la, pu, ps, sc, he, xb, xc, xi, tc, ts, ta, bc, bs, bm, pb, ou, yb, yl, yf, ya, ys, ye, zf, za, zs, ze, wy, pt, su, bb, bu, rfl, rfl, hS, hE, hF, hG, hO, hZ⟩ := I
  have hB0 := hB
  obtain ⟨hC, hsi, hne⟩ := hB
  have hla : ∀ c, c < 8 → ∃ l, l < 12 ∧ la c = nI l := fun c hc => (hE c hc).1
  unfold wpX_route
  dsimp only
  refine xs_isPay (fun ask => br_f cw_n1 ?_) (fun ask => br_t rfl ?_)
  · obtain ⟨p, q, w, hp, hq, hpq, w1, w2, rfl, rfl, rfl⟩ := id ask
    refine xs_find hC hsi hD hla hp hq w2 (fun tc ts ta bc bs bm bl b m hmin hxB => ?_)
    dsimp only
    obtain ⟨ebl, hm4, hbb⟩ := id hxB
    subst ebl
    have J' : ∀ (yn : Int32) (wy pt su bb bu : Nat → Int32), i_Rel (k + 5) (nI H, sp, nI C, nI m, co, on, ba, ra, gu, se, si, st, la, pu, ps, sc, he, xb, xc, xi, xf, xa, xe, tc, ts, ta, bc, bs, bm) (nI H, sp, nI C, yn, co, ba, ra, gu, se, on, si, st, la, pu, pb, sc, he, ou, yb, yl, yf, ya, ys, ye, zf, za, zs, ze, wy, pt, su, bb, bu) := fun yn wy pt su bb bu => ⟨H, C, sp, on, ba, ra, gu, si, xf, xa, xe, by omega, hB0, hD, nI m, yn, co, se, st, la, pu, ps, sc, he, xb, xc, xi, tc, ts, ta, bc, bs, bm, pb, ou, yb, yl, yf, ya, ys, ye, zf, za, zs, ze, wy, pt, su, bb, bu, rfl, rfl, hS, hE, hF, hG, hO, hZ⟩
    have seek : ∀ post : Int32 → SY → Prop, (∀ (mo : Int32) (wy pt su bb bu : Nat → Int32), (∀ i, i < m → bb i = bc i ∧ bu i = bm i) → post mo (nI H, sp, nI C, nI m, co, ba, ra, gu, se, on, si, st, la, pu, pb, sc, he, ou, yb, yl, yf, ya, ys, ye, zf, za, zs, ze, wy, pt, su, bb, bu)) → wpY_seek post (nI H, sp, nI C, yn, co, ba, ra, gu, se, on, si, st, la, pu, pb, sc, he, ou, yb, yl, yf, ya, ys, ye, zf, za, zs, ze, wy, pt, su, bb, bu) (nI p) (nI q) (nI w) := by
      intro post hpost
      refine ys_findV hC hsi hne hD hla (cw_ca_y hE hF hG) hp hq w1 w2 (fun mo yn wy pt su bb bu b' m' hmin' hyB => ?_)
      obtain ⟨_, eyn, _, heq⟩ := cw_same hC hmin hxB hmin' hyB
      subst eyn
      exact hpost mo wy pt su bb bu heq
    clear hmin hbb
    rcases Nat.eq_zero_or_pos m with hm | hm
    · subst hm
      refine br_t rfl ?_
      unfold wpY_route
      dsimp only
      refine ys_isAsk (fun _ => br_f cw_n1 (seek _ (fun mo wy pt su bb bu heq => ?_))) (fun na => absurd ask na)
      dsimp only
      exact br_t rfl ⟨rfl, J' _ wy pt su bb bu⟩
    · have m0 : ¬ nI m = 0 := nI_ne0 hm (by omega)
      refine br_f m0 ?_
      have fin : ∀ r : Int32, (∀ (wy pt su bb bu : Nat → Int32) (post : Int32 → SY → Prop), (∀ i, i < m → bb i = bc i ∧ bu i = bm i) → post r (nI H, sp, nI C, nI m, co, ba, ra, gu, se, on, si, st, la, pu, pb, sc, he, ou, yb, yl, yf, ya, ys, ye, zf, za, zs, ze, wy, pt, su, bb, bu) →
          ((v4 < 0 → post (-1) (nI H, sp, nI C, nI m, co, ba, ra, gu, se, on, si, st, la, pu, pb, sc, he, ou, yb, yl, yf, ya, ys, ye, zf, za, zs, ze, wy, pt, su, bb, bu)) ∧ (¬ v4 < 0 → ((v4 ≤ 8 → ((v4 = 8 → post (nI m) (nI H, sp, nI C, nI m, co, ba, ra, gu, se, on, si, st, la, pu, pb, sc, he, ou, yb, yl, yf, ya, ys, ye, zf, za, zs, ze, wy, pt, su, bb, bu)) ∧ (¬ v4 = 8 → ∀ x5 : Int32, x5 = v4 &&& 3 → ((x5 < nI m → ((4 ≤ v4 → (vp_in x5 4 ∧ post (bu x5.toNatClampNeg) (nI H, sp, nI C, nI m, co, ba, ra, gu, se, on, si, st, la, pu, pb, sc, he, ou, yb, yl, yf, ya, ys, ye, zf, za, zs, ze, wy, pt, su, bb, bu))) ∧ (¬ 4 ≤ v4 → (vp_in x5 4 ∧ post (bb x5.toNatClampNeg) (nI H, sp, nI C, nI m, co, ba, ra, gu, se, on, si, st, la, pu, pb, sc, he, ou, yb, yl, yf, ya, ys, ye, zf, za, zs, ze, wy, pt, su, bb, bu))))) ∧ (¬ x5 < nI m → post (-1) (nI H, sp, nI C, nI m, co, ba, ra, gu, se, on, si, st, la, pu, pb, sc, he, ou, yb, yl, yf, ya, ys, ye, zf, za, zs, ze, wy, pt, su, bb, bu)))))) ∧ (¬ v4 ≤ 8 → post (-1) (nI H, sp, nI C, nI m, co, ba, ra, gu, se, on, si, st, la, pu, pb, sc, he, ou, yb, yl, yf, ya, ys, ye, zf, za, zs, ze, wy, pt, su, bb, bu)))))) →
          wpY_route (fun r' v' => r' = r ∧ i_Rel (k + 5) (nI H, sp, nI C, nI m, co, on, ba, ra, gu, se, si, st, la, pu, ps, sc, he, xb, xc, xi, xf, xa, xe, tc, ts, ta, bc, bs, bm) v') (nI H, sp, nI C, yn, co, ba, ra, gu, se, on, si, st, la, pu, pb, sc, he, ou, yb, yl, yf, ya, ys, ye, zf, za, zs, ze, wy, pt, su, bb, bu) (nI p) (nI q) (nI w) v4 := by
        intro r hr
        unfold wpY_route
        dsimp only
        refine ys_isAsk (fun _ => br_f cw_n1 (seek _ (fun mo wy pt su bb bu heq => ?_))) (fun na => absurd ask na)
        dsimp only
        exact br_f m0 (hr wy pt su bb bu (fun r' v' => r' = r ∧ i_Rel (k + 5) (nI H, sp, nI C, nI m, co, on, ba, ra, gu, se, si, st, la, pu, ps, sc, he, xb, xc, xi, xf, xa, xe, tc, ts, ta, bc, bs, bm) v') heq ⟨rfl, J' _ wy pt su bb bu⟩)
      by_cases s0 : v4 < 0
      · have s8 : ¬ v4 = 8 := fun z => by rw [z] at s0; exact absurd s0 (by decide)
        have s4 : v4 < 4 := Int32.lt_trans s0 (by decide)
        unfold wX_route_62
        refine br_f s8 (br_t s0 (br_t s4 (fin (-1) (fun wy pt su bb bu post heq hp => br_t s0 hp))))
      obtain ⟨x, hx, rfl⟩ := nI_of s0
      by_cases s8 : x = 8
      · subst s8
        refine br_t rfl (fin (nI m) (fun wy pt su bb bu post heq hp => br_f s0 (br_t (by decide) (br_t rfl hp))))
      have s8' : ¬ nI x = 8 := by rw [cw_eq8 hx]; exact s8
      by_cases s9 : 8 < x
      · have t1 : nI m ≤ nI x := nI_le (by omega) hx
        have t2 : ¬ nI x < 4 := by rw [cw_tl4 hx]; omega
        have t3 : 4 + nI m ≤ nI x := by rw [show (4 : Int32) + nI m = nI (4 + m) from nI_add 4 m]; exact nI_le (by omega) hx
        have t4 : ¬ nI x ≤ 8 := by rw [cw_el8 hx]; omega
        unfold wX_route_62
        exact br_f s8' (br_f s0 (br_t t1 (br_f t2 (br_t t3 (fin (-1) (fun wy pt su bb bu post heq hp => br_f s0 (br_f t4 hp)))))))
      have t8 : nI x ≤ 8 := by rw [cw_el8 hx]; omega
      by_cases x4 : x < 4
      · have a3 : nI x &&& 3 = nI x := by
          have : x = 0 ∨ x = 1 ∨ x = 2 ∨ x = 3 := by omega
          rcases this with rfl | rfl | rfl | rfl <;> decide
        have t4 : ¬ 4 ≤ nI x := by rw [cw_le4 hx]; omega
        by_cases xm : x < m
        · have t1 : ¬ nI m ≤ nI x := nI_ge xm (by omega)
          refine br_f s8' (br_f s0 (br_f t1 ⟨pk_in x 4 x4, ?_⟩))
          rw [nI_clamp hx]
          refine fin (bc x) (fun wy pt su bb bu post heq hp => br_f s0 (br_t t8 (br_f s8' (nm_r a3 (br_t (nI_lt xm (by omega)) (br_f t4 ⟨pk_in x 4 x4, ?_⟩))))))
          rw [nI_clamp hx, (heq x xm).1]
          exact hp
        · have t1 : nI m ≤ nI x := nI_le (by omega) hx
          have t2 : nI x < 4 := by rw [cw_tl4 hx]; omega
          unfold wX_route_62
          exact br_f s8' (br_f s0 (br_t t1 (br_t t2 (fin (-1) (fun wy pt su bb bu post heq hp => br_f s0 (br_t t8 (br_f s8' (nm_r a3 (br_f (nI_nlt (by omega) hx) hp)))))))))
      · obtain ⟨y, rfl⟩ : ∃ y, x = y + 4 := ⟨x - 4, by omega⟩
        have a3 : nI (y + 4) &&& 3 = nI y := by
          have : y = 0 ∨ y = 1 ∨ y = 2 ∨ y = 3 := by omega
          rcases this with rfl | rfl | rfl | rfl <;> decide
        have t4 : 4 ≤ nI (y + 4) := by rw [cw_le4 hx]; omega
        have t1 : nI m ≤ nI (y + 4) := nI_le (by omega) hx
        have t2 : ¬ nI (y + 4) < 4 := by rw [cw_tl4 hx]; omega
        have e4 : nI (y + 4) - 4 = nI y := by rw [show (4 : Int32) = nI 4 from rfl, pk_sub (by omega), Nat.add_sub_cancel]
        unfold wX_route_62
        by_cases xm : y < m
        · have t3 : ¬ 4 + nI m ≤ nI (y + 4) := by rw [show (4 : Int32) + nI m = nI (4 + m) from nI_add 4 m]; exact nI_ge (by omega) (by omega)
          refine br_f s8' (br_f s0 (br_t t1 (br_f t2 (br_f t3 ?_))))
          rw [e4, nI_clamp (by omega)]
          refine ⟨pk_in y 4 (by omega), fin (bm y) (fun wy pt su bb bu post heq hp => br_f s0 (br_t t8 (br_f s8' (nm_r a3 (br_t (nI_lt xm (by omega)) (br_t t4 ⟨pk_in y 4 (by omega), ?_⟩))))))⟩
          rw [nI_clamp (by omega), (heq y xm).2]
          exact hp
        · have t3 : 4 + nI m ≤ nI (y + 4) := by rw [show (4 : Int32) + nI m = nI (4 + m) from nI_add 4 m]; exact nI_le (by omega) hx
          exact br_f s8' (br_f s0 (br_t t1 (br_f t2 (br_t t3 (fin (-1) (fun wy pt su bb bu post heq hp => br_f s0 (br_t t8 (br_f s8' (nm_r a3 (br_f (nI_nlt (by omega) (by omega)) hp))))))))))
  · unfold wpY_route
    dsimp only
    exact ys_isAsk (fun y => absurd y ask) (fun _ => br_t rfl ⟨rfl, J⟩)
def xw_29 (post : Int32 → SX → Prop) (x1 x2 : Int32) (n : Nat) (x3 x4 : Int32) (u : SX) : Prop := match u with
  | (h, sp, ch, bl, co, on, ba, ra, gu, se, si, st, la, pu, ps, sc, he, xb, xc, xi, xf, xa, xe, tc, ts, ta, bc, bs, bm) => wX_most_29 post x1 x2 n x3 x4 h sp ch bl co on ba ra gu se si st la pu ps sc he xb xc xi xf xa xe tc ts ta bc bs bm
theorem cw_2p {b : Nat} (hb : b ≤ 7) : (1 : Int32) <<< (nI b &&& 31) = nI (2 ^ b) := by
  have : b = 0 ∨ b = 1 ∨ b = 2 ∨ b = 3 ∨ b = 4 ∨ b = 5 ∨ b = 6 ∨ b = 7 := by omega
  rcases this with rfl | rfl | rfl | rfl | rfl | rfl | rfl | rfl <;> decide
theorem cw_2q {b : Nat} (hb : b ≤ 8) : 2 ^ b ≤ 256 := by
  have : b = 0 ∨ b = 1 ∨ b = 2 ∨ b = 3 ∨ b = 4 ∨ b = 5 ∨ b = 6 ∨ b = 7 ∨ b = 8 := by omega
  rcases this with rfl | rfl | rfl | rfl | rfl | rfl | rfl | rfl | rfl <;> decide
theorem xs_most29 {post : Int32 → SX → Prop} {C p q : Nat} (hC : C ≤ 8) (hsi : ∀ i, i < 16 → ∃ a, a < 6 ∧ si i = nI a) (hD : cw_D on ba ra) (hla : ∀ c, c < 8 → ∃ l, l < 12 ∧ la c = nI l) (hp : p < 6) (hq : q < 6)
    (H : ∀ (c : Nat) (tc ts ta bc bs bm : Nat → Int32) (bl : Int32), (c = 0 ∨ ∃ w n, ro_good (cw_nt 16 si) (cw_nt 6 ba) (cw_nt 6 ra) C (cw_rd st on si) (cw_ca la xc xb) p q c w n) → c ≤ 255 → (∀ v, c + 1 ≤ v → v ≤ 255 → ¬ ∃ w n, ro_good (cw_nt 16 si) (cw_nt 6 ba) (cw_nt 6 ra) C (cw_rd st on si) (cw_ca la xc xb) p q v w n) → post (nI c) (h, sp, nI C, bl, co, on, ba, ra, gu, se, si, st, la, pu, ps, sc, he, xb, xc, xi, xf, xa, xe, tc, ts, ta, bc, bs, bm)) :
    ∀ b c (tc ts ta bc bs bm : Nat → Int32) (bl : Int32), b ≤ 8 → (c = 0 ∨ ∃ w n, ro_good (cw_nt 16 si) (cw_nt 6 ba) (cw_nt 6 ra) C (cw_rd st on si) (cw_ca la xc xb) p q c w n) → c + 2 ^ b ≤ 256 → (∀ v, c + 2 ^ b ≤ v → v ≤ 255 → ¬ ∃ w n, ro_good (cw_nt 16 si) (cw_nt 6 ba) (cw_nt 6 ra) C (cw_rd st on si) (cw_ca la xc xb) p q v w n) →
      wX_most_29 post (nI p) (nI q) (b + 1) (nI c) (nI b - 1) h sp (nI C) bl co on ba ra gu se si st la pu ps sc he xb xc xi xf xa xe tc ts ta bc bs bm := by
  obtain ⟨b9, r20⟩ := cw_D9 hD
  have mono : ∀ v v', v ≤ v' → v' ≤ 255 → (∃ w n, ro_good (cw_nt 16 si) (cw_nt 6 ba) (cw_nt 6 ra) C (cw_rd st on si) (cw_ca la xc xb) p q v' w n) → ∃ w n, ro_good (cw_nt 16 si) (cw_nt 6 ba) (cw_nt 6 ra) C (cw_rd st on si) (cw_ca la xc xb) p q v w n := by
    intro v v' h1 h2 h3
    obtain ⟨w, n, g⟩ := h3
    refine ⟨w, n, ro_good_mono (cw_nt 16 si) (cw_nt 6 ba) (cw_nt 6 ra) C (cw_rd st on si) (cw_ca la xc xb) (fun c s a a' x1 x2 x3 => ⟨x3.1, x3.2.1, Int32.le_trans (nI_le x1 (by omega)) x3.2.2⟩) b9 r20 h2 h1 g⟩
  intro b
  induction b with
  | zero =>
    intro c tc ts ta bc bs bm bl _ h1 h2 h3
    rw [wX_most_29]
    refine br_t cw_z1 (H c tc ts ta bc bs bm bl h1 (by omega) ?_)
    rw [Nat.pow_zero] at h3
    exact h3
  | succ b ih =>
    intro c tc ts ta bc bs bm bl hb h1 h2 h3
    have hq2 := cw_2q hb
    have q0 : ¬ nI b < 0 := nI_pos (by omega)
    have e2 : 2 ^ (b + 1) = 2 ^ b + 2 ^ b := by rw [Nat.pow_succ]; omega
    have h2p : 1 ≤ 2 ^ b := Nat.one_le_two_pow
    have et : nI c + ((1 : Int32) <<< (nI b &&& 31)) = nI (c + 2 ^ b) := by rw [cw_2p (by omega), nI_add]
    rw [wX_most_29, nI_pred]
    refine br_f q0 (nm_r et ?_)
    refine xs_find hC hsi hD hla hp hq (show c + 2 ^ b ≤ 255 by omega) (fun tc ts ta bc bs bm bl b' m hmin hxB => ?_)
    dsimp only
    obtain ⟨ebl, hm4, _⟩ := hxB
    subst ebl
    refine br_c (fun z => nm_r (cw_m1s b) (ih c tc ts ta bc bs bm _ (by omega) h1 (by omega) (fun v x1 x2 g => ?_))) (fun z => nm_r (cw_m1s b) (ih (c + 2 ^ b) tc ts ta bc bs bm _ (by omega) (Or.inr ?_) (by omega) (fun v x1 x2 => h3 v (by omega) x2)))
    · have hm : m = 0 := by
        have := (cw_el0 (show m < 2 ^ 31 by omega)).mp z
        omega
      obtain ⟨w, n, g'⟩ := mono (c + 2 ^ b) v x1 x2 g
      rcases hmin with ⟨_, hno⟩ | ⟨hg, _⟩
      · exact hno w n trivial g'
      · have := hg.1
        omega
    · rcases hmin with ⟨hm, _⟩ | ⟨hg, _⟩
      · subst hm
        exact absurd (by decide) z
      · exact ⟨b', m, hg⟩
theorem i_vc_most {k : Nat} {u : SX} {v : SY} (I : i_Rel k u v) (hk : k + 5 ≤ 2560) (v1 : Int32) (v2 : Int32) : wpX_most (fun r u' => wpY_most (fun r' v' => r' = r ∧ i_Rel (k + 5) u' v') v v1 v2) u v1 v2 := by
  have J := i_up I
  obtain ⟨H, C, sp, on, ba, ra, gu, si, xf, xa, xe, hH, hB, hD, bl, yn, co, se, st, la, pu, ps, sc, he, xb, xc, xi, tc, ts, ta, bc, bs, bm, pb, ou, yb, yl, yf, ya, ys, ye, zf, za, zs, ze, wy, pt, su, bb, bu, rfl, rfl, hS, hE, hF, hG, hO, hZ⟩ := I
  have hB0 := hB
  obtain ⟨hC, hsi, hne⟩ := hB
  have hla : ∀ c, c < 8 → ∃ l, l < 12 ∧ la c = nI l := fun c hc => (hE c hc).1
  have nask : ¬ cw_ask v1 v2 1 → wpY_most (fun r' v' => r' = 0 ∧ i_Rel (k + 5) (nI H, sp, nI C, bl, co, on, ba, ra, gu, se, si, st, la, pu, ps, sc, he, xb, xc, xi, xf, xa, xe, tc, ts, ta, bc, bs, bm) v') (nI H, sp, nI C, yn, co, ba, ra, gu, se, on, si, st, la, pu, pb, sc, he, ou, yb, yl, yf, ya, ys, ye, zf, za, zs, ze, wy, pt, su, bb, bu) v1 v2 := by
    intro na
    unfold wpY_most
    dsimp only
    exact ys_isAsk (fun y => absurd y na) (fun _ => br_t rfl ⟨rfl, J⟩)
  by_cases ask : cw_ask v1 v2 1
  · obtain ⟨a0, a6, b0, b6, ab, _, _, _, _⟩ := cw_ask1 ask
    obtain ⟨p, q, w, hp, hq, hpq, w1, w2, rfl, rfl, _⟩ := id ask
    simp only [wpX_most, wpX_isParty, a0, a6, b0, b6, ab, cw_n1, forall_eq, nI_leI, nI_ltI, nI_eq, true_implies, forall_const, not_true_eq_false, not_false_eq_true, false_implies, and_true, true_and, implies_true, and_self, reduceIte]
    refine ⟨9, ?_⟩
    refine xs_most29 (C := C) (p := p) (q := q) hC hsi hD hla hp hq (fun c tc ts ta bc bs bm bl h1 h2 h3 => ?_) 8 0 tc ts ta bc bs bm bl (by omega) (Or.inl rfl) (by omega) (fun v x1 x2 => by omega)
    unfold wpY_most
    dsimp only
    refine ys_isAsk (fun _ => br_f cw_n1 ?_) (fun na => absurd ask na)
    refine ys_findM hC hsi hne hD hla (cw_ca_y hE hF hG) hp hq (fun M yn wy pt su bb bu k1 k2 k3 => ?_)
    dsimp only
    have e : c = M := ro_top h1 h2 h3 k1 k2 k3
    subst e
    exact ⟨rfl, ⟨H, C, sp, on, ba, ra, gu, si, xf, xa, xe, by omega, hB0, hD, bl, yn, co, se, st, la, pu, ps, sc, he, xb, xc, xi, tc, ts, ta, bc, bs, bm, pb, ou, yb, yl, yf, ya, ys, ye, zf, za, zs, ze, wy, pt, su, bb, bu, rfl, rfl, hS, hE, hF, hG, hO, hZ⟩⟩
  · have z := nask ask
    simp only [wpX_most, wpX_isParty]
    have e1 : ¬ (1 : Int32) < 1 := by decide
    have e2 : ¬ (255 : Int32) < 1 := by decide
    refine br_c (fun _ => br_t trivial z) (fun a0 => br_c (fun _ => br_t trivial z) (fun a6 => br_f cw_n1 (br_c (fun _ => br_t trivial z) (fun b0 => br_c (fun _ => br_t trivial z) (fun b6 => br_f cw_n1 (br_c (fun _ => z) (fun ab => absurd (cw_ask0 a0 a6 b0 b6 ab e1 e2) ask)))))))
end RM
