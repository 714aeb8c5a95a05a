/-! the least waiting, as the model finds it -/
theorem mnl_no {p : Int32 → Bool} {h : Int32 → Int} : ∀ (L : List Int32) (b : Int), (∀ g ∈ L, ¬ p g = true) → mnl p h L b = b
  | [], _, _ => rfl
  | g :: L, b, e => by
    show mnl p h L (if p g = true ∧ h g < b then h g else b) = b
    rw [if_neg (fun z => e g List.mem_cons_self z.1)]
    exact mnl_no L b (fun x hx => e x (List.mem_cons_of_mem _ hx))
theorem lfI_f {L : List Int32} {wn : Int → Int32 → Int} {adv : Int32 → Int} {now : Int} (hG : ∀ g ∈ L, 1 ≤ cd g) : ∀ (f f2 : Nat) (y : Int32), cd y ≤ f → cd y ≤ f2 → lfI L wn adv now f y = lfI L wn adv now f2 y := by
  have z : ∀ f y, cd y = 0 → lfI L wn adv now f y = adv y := fun f y hc => by
    cases f with
    | zero => rfl
    | succ f =>
      refine mnl_no L (adv y) (fun g hg q => ?_)
      obtain ⟨p, hp, hb⟩ := cdN_one 8 (hG g hg)
      have := sbs_bt.mp q p (by omega) hb
      rw [cdN_0 8 hc p hp] at this
      cases this
  intro f
  induction f with
  | zero =>
    intro f2 y h1 h2
    rw [z f2 y (Nat.le_zero.mp h1)]
    rfl
  | succ f ih =>
    intro f2 y h1 h2
    by_cases c : cd y = 0
    · rw [z _ y c, z _ y c]
    · cases f2 with
      | zero => omega
      | succ f2 =>
        refine mnl_c L (adv y) (fun g hg pg => ?_)
        have cg := cdd_l pg
        have g1 := hG g hg
        show 10 * wn now g - 1 + lfI L wn adv now f (dl y g) = 10 * wn now g - 1 + lfI L wn adv now f2 (dl y g)
        rw [ih f2 (dl y g) (by omega) (by omega)]
def cmW (w : Tw) : List Nat := coA w.2.1 w.1.toNat 24 0
def nwW (w : Tw) (m : Nat) : Int := if m = 0 then 0 else hrI w ((cmW w).getD (m - 1) 0)
def vM (w : Tw) (m : Nat) (y : Int32) : Int := lfO (LW w) (wnW w) (stW w) (hrI w) ((cmW w).drop m) (nwW w m) y
def avM (w : Tw) (m : Nat) (y : Int32) : Int := if m = w.1.toNat then 10 * stW w y + 9 else vM w (m + 1) (y ||| bitN ((cmW w).getD m 0))
theorem cm_len {w : Tw} (hH : HC w) : (cmW w).length = w.1.toNat := coA_len w.2.1 w.1.toNat (fun p hp => (hH p (by omega)).1)
theorem cm_drop {w : Tw} (hH : HC w) {m : Nat} (h : m < w.1.toNat) : (cmW w).drop m = (cmW w).getD m 0 :: (cmW w).drop (m + 1) := by
  have hl : m < (cmW w).length := by rw [cm_len hH]; exact h
  rw [List.drop_eq_getElem_cons hl, List.getD_eq_getElem?_getD, List.getElem?_eq_getElem hl]
  rfl
theorem vM_rec {w : Tw} (hb : (0 ≤ w.1 ∧ w.1 ≤ 7) ∧ 2 ≤ w.2.2.2.1 ∧ w.2.2.2.1 ≤ 4) (hsy : SYM w) (hH : HC w) {m : Nat} (hm : m ≤ w.1.toNat) (y : Int32) : vM w m y = mnl (sbs y) (fun g => 10 * wnW w (nwW w m) g - 1 + vM w m (dl y g)) (LW w) (avM w m y) := by
  have hG := LW_c1 hb hsy
  unfold vM avM
  by_cases c : m = w.1.toNat
  · rw [if_pos c, List.drop_eq_nil_of_le (by rw [cm_len hH]; omega)]
    refine mnl_c (LW w) _ (fun g hg pg => ?_)
    have cg := cdd_l pg
    have g1 := hG g hg
    have c8 := cd_8n y
    show 10 * wnW w (nwW w m) g - 1 + lfI (LW w) (wnW w) (fun y => 10 * stW w y + 9) (nwW w m) 7 (dl y g) = 10 * wnW w (nwW w m) g - 1 + lfI (LW w) (wnW w) (fun y => 10 * stW w y + 9) (nwW w m) 8 (dl y g)
    rw [lfI_f hG 7 8 (dl y g) (by omega) (by omega)]
  · rw [if_neg c, cm_drop hH (by omega)]
    have en : nwW w (m + 1) = hrI w ((cmW w).getD m 0) := if_neg (by omega)
    unfold vM
    rw [en]
    refine mnl_c (LW w) _ (fun g hg pg => ?_)
    have cg := cdd_l pg
    have g1 := hG g hg
    have c8 := cd_8n y
    show 10 * wnW w (nwW w m) g - 1 + lfI (LW w) (wnW w) (fun z => lfO (LW w) (wnW w) (stW w) (hrI w) ((cmW w).drop (m + 1)) (hrI w ((cmW w).getD m 0)) (z ||| bitN ((cmW w).getD m 0))) (nwW w m) 7 (dl y g) = 10 * wnW w (nwW w m) g - 1 + lfI (LW w) (wnW w) (fun z => lfO (LW w) (wnW w) (stW w) (hrI w) ((cmW w).drop (m + 1)) (hrI w ((cmW w).getD m 0)) (z ||| bitN ((cmW w).getD m 0))) (nwW w m) 8 (dl y g)
    rw [lfI_f hG 7 8 (dl y g) (by omega) (by omega)]
theorem Come_mono {hr : Nat → Int} : ∀ (R : List Nat) (now now2 : Int), now2 ≤ now → ComeOk hr R now → ComeOk hr R now2
  | [], _, _, _, _ => trivial
  | c :: R, now, now2, h, ⟨h1, h2⟩ => ⟨Int.le_trans h h1, h2⟩
theorem Come_app {hr : Nat → Int} {h : Int} {B : List Nat} : ∀ (A : List Nat) (now : Int), (∀ a ∈ A, hr a = h ∧ a < 8) → (A ++ B).Nodup → now ≤ h → ComeOk hr B h → ComeOk hr (A ++ B) now
  | [], now, _, _, hn, hB => Come_mono B h now hn hB
  | a :: A, now, hA, hd, hn, hB => by
    obtain ⟨n1, n2⟩ := List.nodup_cons.mp hd
    obtain ⟨a1, a2⟩ := hA a List.mem_cons_self
    refine ⟨by omega, a2, n1, ?_⟩
    rw [a1]
    exact Come_app A h (fun x hx => hA x (List.mem_cons_of_mem _ hx)) n2 (Int.le_refl _) hB
theorem coA_ok (hr : Nat → Int32) (n : Nat) (hn : n ≤ 8) : ∀ (k h : Nat) (now : Int), h + k ≤ 24 → now ≤ (h : Int) → ComeOk (fun p => (hr p).toInt) (coA hr n k h) now
  | 0, _, _, _, _ => trivial
  | k + 1, h, now, hk, hnow => by
    have nd := coA_nd hr n (k + 1) h (by omega)
    refine Come_app (h := (h : Int)) (cof hr (Int32.ofNat h) n 0) now (fun a ha => ⟨?_, ?_⟩) nd hnow (coA_ok hr n hn k (h + 1) (h : Int) (by omega) (by omega))
    · show (hr a).toInt = (h : Int)
      rw [(cof_lo hr _ n 0 a ha).2, ofN_i (by omega)]
    · have := coA_mem hr n (k + 1) h a (List.mem_append.mpr (Or.inl ha))
      omega
theorem cm_ok {w : Tw} (hb : 0 ≤ w.1 ∧ w.1 ≤ 7) : ComeOk (hrI w) (cmW w) 0 := coA_ok w.2.1 w.1.toNat (by omega) 24 0 0 (by decide) (by decide)
theorem Come_drop {w : Tw} (hb : 0 ≤ w.1 ∧ w.1 ≤ 7) (hH : HC w) : ∀ m, m ≤ w.1.toNat → ComeOk (hrI w) ((cmW w).drop m) (nwW w m)
  | 0, _ => cm_ok hb
  | m + 1, hm => by
    have ih := Come_drop hb hH m (by omega)
    rw [cm_drop hH (by omega)] at ih
    have en : nwW w (m + 1) = hrI w ((cmW w).getD m 0) := if_neg (by omega)
    rw [en]
    exact ih.2.2.2
theorem cm_mask {w : Tw} (hb : 0 ≤ w.1 ∧ w.1 ≤ 7) (hH : HC w) : maskN (cmW w) = evW w := by
  have hl := Come_lt _ _ (cm_ok hb)
  have g := ev_Gd hb
  have q : (Int32.ofInt w.1).toInt = w.1 := Int32.toInt_ofInt_of_le (by omega) (by omega)
  refine bt_all (fun i hi => ?_)
  rw [maskN_bt _ hl i hi]
  by_cases c : i < 8
  · have e : bt (evW w) i = decide (i < w.1.toNat) := by
      unfold evW
      rw [bt_ev (by omega) c, q]
    rw [e]
    refine decide_eq_decide.mpr ⟨fun h => coA_mem _ _ _ _ _ h, fun h => ?_⟩
    have hh := (hH i (by omega)).1
    exact coA_all _ _ 24 0 i h ⟨(w.2.1 i).toInt.toNat, by omega, by omega, i32_ofNat hh.1⟩
  · rw [Gd_bt g i (by omega) hi]
    exact decide_eq_false (fun h => by have := hl i h; omega)
theorem laN_le {w : Tw} {g : Int32} {now : Int} (h0 : 0 ≤ now) : ∀ k, (∀ p, p < k → bt g p = true → hrI w p ≤ now) → laN w g k ≤ now
  | 0, _ => h0
  | k + 1, h => by
    have ih := laN_le (w := w) (g := g) h0 k (fun p hp => h p (by omega))
    show (if bt g k = true ∧ laN w g k < hrI w k then hrI w k else laN w g k) ≤ now
    by_cases c : bt g k = true ∧ laN w g k < hrI w k
    · rw [if_pos c]
      exact h k (by omega) c.1
    · rw [if_neg c]
      exact ih
theorem wn_ge {w : Tw} (hb : 0 ≤ w.1 ∧ w.1 ≤ 7) (hH : HC w) (now : Int) (y g : Int32) (hY : InY (hrI w) now y) (hg : sbs y g = true) : wtW w g ≤ wnW w now g := by
  have l := laN_le (w := w) (g := g) hY.2.2 w.1.toNat (fun p hp hbp => hY.1 p (by omega) (sbs_bt.mp hg p (by omega) hbp))
  refine sumP_le w.1.toNat (fun p hp _ => ?_)
  have h := hH p (by omega)
  exact Int.mul_le_mul_of_nonneg_left (by omega) h.2.1
theorem wn_eq {w : Tw} (hb : (0 ≤ w.1 ∧ w.1 ≤ 7) ∧ 2 ≤ w.2.2.2.1 ∧ w.2.2.2.1 ≤ 4) (hsy : SYM w) (now : Int) (y g cl : Int32) (hY : InY (hrI w) now y) (hgL : g ∈ LW w) (hg : sbs y g = true) (hc : ¬ (g &&& cl) = 0) (hcl : ∀ p, p < 32 → bt cl p = true → hrI w p = now) : wnW w now g = wtW w g := by
  have l := laN_le (w := w) (g := g) hY.2.2 w.1.toNat (fun p hp hbp => hY.1 p (by omega) (sbs_bt.mp hg p (by omega) hbp))
  have l2 : now ≤ laN w g w.1.toNat := Classical.byContradiction (fun no => hc (dis_bt.mpr (fun i hi hbi => Bool.eq_false_iff.mpr (fun hci => by
    have h8 : i < 8 := Nat.lt_of_not_le (fun z => by
      have := hY.2.1 i z hi
      rw [sbs_bt.mp hg i hi hbi] at this
      cases this)
    have hN : i < w.1.toNat := Nat.lt_of_not_le (fun z => by
      rw [(LW_rel hb hsy hgL).2.1 i z h8] at hbi
      cases hbi)
    have g1 := laN_ge (w := w) hbi w.1.toNat hN
    rw [hcl i hi hci] at g1
    exact no g1))))
  unfold wtW
  rw [show laN w g w.1.toNat = now by omega]
/-- both have found the same -/
theorem least_eq {w : Tw} (hb : (0 ≤ w.1 ∧ w.1 ≤ 7) ∧ 2 ≤ w.2.2.2.1 ∧ w.2.2.2.1 ≤ 4) (hsy : SYM w) (hH : HC w) : ∃ W C : Int, 0 ≤ W ∧ 0 ≤ C ∧ C ≤ 8 ∧ tabW w 16 (evW w) = 16 * W - C ∧ vM w 0 0 = 10 * W - C + 9 := by
  have hev : sbs (evW w) (evW w) = true := sbs_bt.mpr (fun i _ h => h)
  obtain ⟨t1, P, p1, p2⟩ := tab_W (k := 16) hb hsy hev
  have hG := LW_c1 hb hsy
  have ge := cd_Gd (ev_Gd hb.1)
  have c1 := pkv_len hG P _ p1
  have hm := cm_mask hb.1 hH
  have y0 : InY (hrI w) 0 0 := ⟨fun p hp h => (by rw [bt_ze p (by omega)] at h; cases h), fun i _ h => bt_ze i h, Int.le_refl _⟩
  have d0 : ((0 : Int32) &&& maskN (cmW w)) = 0 := Int32.zero_and
  have z0 : (0 : Int32) ||| maskN (cmW w) = evW w := by rw [Int32.zero_or, hm]
  have ev : vM w 0 0 = lfO (LW w) (wnW w) (stW w) (hrI w) (cmW w) 0 0 := rfl
  obtain ⟨P2, q1, q2⟩ := lfO_A (wt := wtW w) (st := stW w) (wn := wnW w) (hr := hrI w) (L := LW w) (fun now y g h _ hs => wn_ge hb.1 hH now y g h hs) (cmW w) 0 0 (cm_ok hb.1) y0 d0
  rw [z0] at q1 q2
  have c2 := pkv_len hG P2 _ q1
  have b := lfO_B (wt := wtW w) (st := stW w) (wn := wnW w) (hr := hrI w) (L := LW w) hG (fun now y g cl h hgL hs hc hcl => wn_eq hb hsy now y g cl h hgL hs hc hcl) (cmW w) 0 0 0 P (cm_ok hb.1) y0 d0 (fun p hp h => by rw [bt_ze p hp] at h; cases h) (by rw [z0]; exact p1) (fun g hg => Or.inl (fun z => by
    rw [hm] at z
    obtain ⟨gL, gs⟩ := pkv_sub P _ p1 g hg
    obtain ⟨p, hp, hbp⟩ := cdN_one 8 (hG g gL)
    have := dis_bt.mp z p (by omega) hbp
    rw [sbs_bt.mp gs p (by omega) hbp] at this
    cases this))
  rw [z0] at b
  have t2 := t1 P2 q1
  rw [p2] at t2
  have lx := lex_w (W := pkV (wtW w) (stW w) (evW w) P) (C := (P.length : Int)) (W2 := pkV (wtW w) (stW w) (evW w) P2) (C2 := (P2.length : Int)) ⟨by omega, by omega⟩ ⟨by omega, by omega⟩ t2
  refine ⟨pkV (wtW w) (stW w) (evW w) P, (P.length : Int), pkV_0 hb.1 hH P _, by omega, by omega, p2, ?_⟩
  rw [ev]
  omega
