/-! the pure parser -/
abbrev Q3 : Type := Int × Int × Int
/-- people, hours, costs, seats, memory, since when two know each other -/
abbrev Tw : Type := Int × (Nat → Int32) × (Nat → Int32) × Int × Int × (Nat → Nat → Int32)
noncomputable def adv (T : Nat → Int32) (n e : Int) : Q3 := Classical.epsilon (fun q : Q3 => TK T n e q.1 q.2.1 q.2.2)
theorem adv_eq {T : Nat → Int32} {n e tk s f : Int} (h0 : 0 ≤ e) (h : TK T n e tk s f) : adv T n e = (tk, s, f) := by
  have hs := Classical.epsilon_spec (p := fun q : Q3 => TK T n e q.1 q.2.1 q.2.2) ⟨(tk, s, f), h⟩
  obtain ⟨a, b, c⟩ := TK_uniq h0 h hs
  exact Prod.ext a.symm (Prod.ext b.symm c.symm)
/-- a number from lo to hi that is ok, and on to the next token; else the place of the fault -/
noncomputable def nm (T : Nat → Int32) (n : Int) (q : Q3) (lo hi : Int) (ok : Int → Bool) : Sum Int (Int × Q3) := if q.1 = 2 ∧ lo ≤ vl T q.2.1 q.2.2 ∧ vl T q.2.1 q.2.2 ≤ hi ∧ ok (vl T q.2.1 q.2.2) = true then .inr (vl T q.2.1 q.2.2, adv T n q.2.2) else .inl q.2.1
theorem nm_y {T : Nat → Int32} {n : Int} {q : Q3} {lo hi g : Int} {q2 : Q3} {ok : Int → Bool} (h : q.1 = 2 ∧ lo ≤ vl T q.2.1 q.2.2 ∧ vl T q.2.1 q.2.2 ≤ hi) (hk : ok (vl T q.2.1 q.2.2) = true) (e1 : g = vl T q.2.1 q.2.2) (e2 : adv T n q.2.2 = q2) : nm T n q lo hi ok = .inr (g, q2) := by
  unfold nm
  rw [if_pos ⟨h.1, h.2.1, h.2.2, hk⟩, e1, e2]
theorem nm_n {T : Nat → Int32} {n : Int} {q : Q3} {lo hi p : Int} {ok : Int → Bool} (h : ¬ (q.1 = 2 ∧ lo ≤ vl T q.2.1 q.2.2 ∧ vl T q.2.1 q.2.2 ≤ hi) ∨ ¬ ok (vl T q.2.1 q.2.2) = true) (e : p = q.2.1) : nm T n q lo hi ok = .inl p := by
  unfold nm
  rw [if_neg (fun z => h.elim (fun g => g ⟨z.1, z.2.1, z.2.2.1⟩) (fun g => g z.2.2.2)), e]
/-- where the scribe stands, where the model stands -/
def qx (I : jdI) : Q3 := ((I 25 2).toInt, (I 25 3).toInt, (I 25 4).toInt)
def qmo (I : jdI) (t : Nat) : Q3 := ((I t 23).toInt, (I t 24).toInt, (I t 22).toInt)
/-- the scribe's state is sound, over the tape T of n letters -/
def SX (T : Nat → Int32) (n : Int) (I : jdI) : Prop := I (25 + 1) = T ∧ (I 25 1).toInt = n ∧ TKp T n (I 25 2).toInt (I 25 3).toInt (I 25 4).toInt
def SM (T : Nat → Int32) (n : Int) (I : jdI) (t : Nat) : Prop := I (t + 16) = T ∧ (I t 8).toInt = n ∧ TKp T n (I t 23).toInt (I t 24).toInt (I t 22).toInt ∧ ((I t 23).toInt = 2 → (I t 25).toInt = vl T (I t 24).toInt (I t 22).toInt)
theorem pX5_advance {G : jdG} {n : Nat} {Z : jdL} {J : jdJ} {K : jdI → jdJ → Prop} {I : jdI} {T : Nat → Int32} {m : Int} (ht : zScribe Z 25) (hW : WX I) (hS : SX T m I) (hK : ∀ I2 : jdI, WX I2 → Fr (fun a k => a = 25) I I2 → SX T m I2 → qx I2 = adv T m (qx I).2.2 → (I2 25 5).toInt = (I 25 5).toInt → K I2 J) : Cl G mX5_advance (n + 1) 0 0 [.ref (gb G + 25)] Z I J (qv Z K) := by
  obtain ⟨s1, s2, s3⟩ := hS
  have hf := tkp_f s3
  have hw := WX_f hW
  refine fsfX5_advance ht hW (by omega) (fun I2 hW2 hF2 hp => ?_)
  obtain ⟨p1, p2, p3⟩ := hp
  rw [s1, s2] at p1
  have e : I2 (25 + 1) = T := by
    rw [← s1]
    funext k
    exact hF2 (25 + 1) k (by omega)
  refine hK I2 hW2 hF2 ⟨e, by omega, p1.2.2.1⟩ ?_ p3
  exact (adv_eq (by show 0 ≤ (I 25 4).toInt; omega) p1).symm
theorem pX5_readNumber {G : jdG} {n : Nat} {Z : jdL} {J : jdJ} {K : Int32 → jdI → jdJ → Prop} {I : jdI} {T : Nat → Int32} {m : Int} {x1 x2 x3 : Int32} {ok : Int → Bool} (ht : zScribe Z 25) (hW : WX I) (hS : SX T m I) (hx : 0 ≤ x1.toInt ∧ x2.toInt ≤ 99) (hok : ∀ w : Int32, x1.toInt ≤ w.toInt → w.toInt ≤ x2.toInt → (ok w.toInt = true ↔ x3.toInt = 0 ∨ ((x3 >>> (w &&& 31)) &&& 1).toInt = 0)) (hK : ∀ (v : Int32) (I2 : jdI), WX I2 → Fr (fun a k => a = 25) I I2 → ((nm T m (qx I) x1.toInt x2.toInt ok = .inr (v.toInt, qx I2) ∧ SX T m I2 ∧ x1.toInt ≤ v.toInt ∧ v.toInt ≤ x2.toInt) ∨ (nm T m (qx I) x1.toInt x2.toInt ok = .inl (I2 25 5).toInt ∧ v.toInt = -1)) → (I2 25 1).toInt = m → I2 (25 + 1) = T → K v I2 J) : Cl G mX5_readNumber (n + 2) 0 0 [.ref (gb G + 25), .int x1, .int x2, .int x3] Z I J (qi Z K) := by
  obtain ⟨s1, s2, s3⟩ := hS
  have hf := tkp_f s3
  have hw := WX_f hW
  refine fsfX5_readNumber ht hW (by rw [s1, s2]; exact s3) hx (fun v I2 hW2 hF2 hp => ?_)
  obtain ⟨p, p9⟩ := hp
  have e : I2 (25 + 1) = T := by
    rw [← s1]
    funext k
    exact hF2 (25 + 1) k (by omega)
  rw [s1, s2] at p
  refine hK v I2 hW2 hF2 ?_ (by omega) e
  rcases p with ⟨p1, p2, p3, p4, p5⟩ | ⟨p1, p2, p3⟩
  · refine Or.inl ⟨nm_y p1 ?_ p2 (adv_eq (by show 0 ≤ (I 25 4).toInt; omega) p4), ⟨e, by omega, p4.2.2.1⟩, by omega, by omega⟩
    show ok (vl T (I 25 3).toInt (I 25 4).toInt) = true
    rw [← p2]
    exact (hok v (by omega) (by omega)).mpr p3
  · refine Or.inr ⟨nm_n ?_ p2, p1⟩
    by_cases c : ((I 25 2).toInt = 2 ∧ x1.toInt ≤ vl T (I 25 3).toInt (I 25 4).toInt ∧ vl T (I 25 3).toInt (I 25 4).toInt ≤ x2.toInt)
    · refine Or.inr (fun h => ?_)
      rcases p3 with p3 | p3
      · exact p3 c
      · have ew : (Int32.ofInt (vl T (I 25 3).toInt (I 25 4).toInt)).toInt = vl T (I 25 3).toInt (I 25 4).toInt := Int32.toInt_ofInt_of_le (by omega) (by omega)
        have h2 := (hok (Int32.ofInt (vl T (I 25 3).toInt (I 25 4).toInt)) (by omega) (by omega)).mp (by rw [ew]; exact h)
        rcases h2 with h2 | h2
        · exact p3.1 h2
        · exact p3.2 _ ew h2
    · exact Or.inl c
theorem pX12_look {G : jdG} {n : Nat} {Z : jdL} {J : jdJ} {K : jdI → jdJ → Prop} {I : jdI} {t : Nat} {T : Nat → Int32} {m : Int} (ht : zModel Z t) (hW : WM 7 t I) (h1 : I (t + 16) = T) (h2 : (I t 8).toInt = m) (h3 : (I t 22).toInt ≤ m) (hK : ∀ I2 : jdI, WM 7 t I2 → Fr (fun a k => a = t ∧ 22 ≤ k ∧ k ≤ 25) I I2 → SM T m I2 t → qmo I2 t = adv T m (I t 22).toInt → K I2 J) : Cl G mX12_look (n + 1) 0 0 [.ref (gb G + t)] Z I J (qv Z K) := by
  have hw := WM_f hW
  refine fsfX12_look ht hW (by omega) (fun I2 hW2 hF2 hp => ?_)
  rw [h1, h2] at hp
  have e : I2 (t + 16) = T := by
    rw [← h1]
    funext k
    exact hF2 (t + 16) k (by omega)
  have e8 := congrArg Int32.toInt (hF2 t 8 (by omega))
  refine hK I2 hW2 hF2 ⟨e, by omega, hp.1.2.2.1, fun q => vl_of (hp.2 q) rfl ((tkp_f hp.1.2.2.1).2 (by omega)).2⟩ ?_
  exact (adv_eq (by omega) hp.1).symm
theorem pX12_number {G : jdG} {n : Nat} {Z : jdL} {J : jdJ} {K : Int32 → jdI → jdJ → Prop} {I : jdI} {t : Nat} {T : Nat → Int32} {m : Int} {x1 x2 x3 : Int32} (ht : zModel Z t) (hW : WM 7 t I) (hS : SM T m I t) (hx1 : x1.toInt = 0 ∨ x1.toInt = 1) (hx : 0 ≤ x2.toInt ∧ x3.toInt ≤ 99) (hK : ∀ (v : Int32) (I2 : jdI), WM 7 t I2 → Fr (fun a k => (a = t ∧ 22 ≤ k ∧ k ≤ 26) ∨ a = t + 29) I I2 → ((v.toInt = 1 ∧ SM T m I2 t ∧ ∃ g : Int, nm T m (qmo I t) x2.toInt x3.toInt (fun _ => true) = .inr (g, qmo I2 t) ∧ x2.toInt ≤ g ∧ g ≤ x3.toInt ∧ (I2 t 26).toInt = (I t 26).toInt ∧ (x1.toInt = 0 → (I2 (t + 29) 0).toInt = g ∧ (I2 (t + 29) 1).toInt = (I (t + 29) 1).toInt) ∧ (x1.toInt = 1 → (I2 (t + 29) 1).toInt = g ∧ (I2 (t + 29) 0).toInt = (I (t + 29) 0).toInt)) ∨ (v.toInt = 0 ∧ nm T m (qmo I t) x2.toInt x3.toInt (fun _ => true) = .inl (I2 t 26).toInt)) → K v I2 J) : Cl G mX12_number (n + 2) 0 0 [.ref (gb G + t), .int x1, .int x2, .int x3] Z I J (qi Z K) := by
  obtain ⟨s1, s2, s3, s4⟩ := hS
  have hf := tkp_f s3
  have hw := WM_f hW
  refine fsfX12_number ht hW (by rw [s1, s2]; exact s3) (by rw [s1]; exact s4) hx1 hx (fun v I2 hW2 hF2 hp => ?_)
  have e : I2 (t + 16) = T := by
    rw [← s1]
    funext k
    exact hF2 (t + 16) k (by omega)
  have e8 := congrArg Int32.toInt (hF2 t 8 (by omega))
  rw [s1, s2] at hp
  refine hK v I2 hW2 hF2 ?_
  rcases hp with ⟨p1, p2, p3, p4, p5, p6, p7⟩ | ⟨p1, p2, p3⟩
  · exact Or.inl ⟨p2, ⟨e, by omega, p3.2.2.1, p4⟩, _, nm_y p1 rfl rfl (adv_eq (by show 0 ≤ (I t 22).toInt; omega) p3), p1.2.1, p1.2.2, p5, p6, p7⟩
  · exact Or.inr ⟨p2, nm_n (Or.inl p1) p3⟩
theorem pX12_tells {G : jdG} {n : Nat} {Z : jdL} {J : jdJ} {K : Int32 → jdI → jdJ → Prop} {I : jdI} {t : Nat} {T : Nat → Int32} {m : Int} {x1 x2 : Int32} (ht : zModel Z t) (hW : WM 7 t I) (h1 : I (t + 16) = T) (h2 : (I t 8).toInt = m) (h3 : (I t 22).toInt ≤ m) (hx : 0 ≤ x1.toInt ∧ x2.toInt ≤ 99) (hK : ∀ (v : Int32) (I2 : jdI), WM 7 t I2 → Fr (fun a k => (a = t ∧ 22 ≤ k ∧ k ≤ 26) ∨ a = t + 29) I I2 → ((v.toInt = 1 ∧ SM T m I2 t ∧ nm T m (adv T m (I t 22).toInt) x1.toInt x2.toInt (fun _ => true) = .inr ((I2 (t + 29) 0).toInt, qmo I2 t) ∧ x1.toInt ≤ (I2 (t + 29) 0).toInt ∧ (I2 (t + 29) 0).toInt ≤ x2.toInt ∧ (I2 t 26).toInt = (I t 26).toInt) ∨ (v.toInt = 0 ∧ nm T m (adv T m (I t 22).toInt) x1.toInt x2.toInt (fun _ => true) = .inl (I2 t 26).toInt)) → K v I2 J) : Cl G mX12_tells (n + 3) 0 0 [.ref (gb G + t), .int x1, .int x2] Z I J (qi Z K) := by
  refine eX12_tells ht ?_
  refine pX12_look ht hW h1 h2 h3 (fun I1 hW1 hF1 hS1 hq => ?_)
  refine pX12_number ht hW1 hS1 (Or.inl rfl) hx (fun v I3 hW3 hF3 hp => ?_)
  have hF : Fr (fun a k => (a = t ∧ 22 ≤ k ∧ k ≤ 26) ∨ a = t + 29) I I3 := Fr.tr (Fr.tr Fr.rf hF1 (by intro a k h; omega)) hF3 (by intro a k h; omega)
  have e26 := congrArg Int32.toInt (hF1 t 26 (by omega))
  rw [hq] at hp
  rcases hp with ⟨p1, p2, g, p3, p4, p5, p6, p7, _⟩ | ⟨p1, p2⟩
  · refine ⟨narrow_b (Or.inr p1), hK v I3 hW3 hF (Or.inl ⟨p1, p2, ?_, ?_, ?_, by omega⟩)⟩
    · rw [(p7 rfl).1]
      exact p3
    · rw [(p7 rfl).1]
      exact p4
    · rw [(p7 rfl).1]
      exact p5
  · exact ⟨narrow_b (Or.inl p1), hK v I3 hW3 hF (Or.inr ⟨p1, p2⟩)⟩
/-- the memory of X holds the town w at b; the model's at t -/
def RX (I : jdI) (b : Nat) (w : Tw) : Prop := (I b 3).toInt = w.1 ∧ (∀ i : Nat, (i : Int) < w.1 → I (b + 1) i = w.2.1 i ∧ I (b + 2) i = w.2.2.1 i) ∧ (I b 4).toInt = w.2.2.2.1 ∧ (I b 5).toInt = w.2.2.2.2.1 ∧ ∀ i j : Nat, (i : Int) < w.1 → (j : Int) < w.1 → i ≠ j → I (b + 3) (i * 7 + j) = w.2.2.2.2.2 i j
def RM (I : jdI) (t : Nat) (w : Tw) : Prop := (I t 10).toInt = w.1 ∧ (∀ i : Nat, (i : Int) < w.1 → I (t + 18) i = w.2.1 i ∧ I (t + 19) i = w.2.2.1 i) ∧ (I t 14).toInt = w.2.2.2.1 ∧ (I t 15).toInt = w.2.2.2.2.1 ∧ ∀ i j : Nat, (i : Int) < w.1 → (j : Int) < w.1 → i ≠ j → I (t + 21 + i) j = w.2.2.2.2.2 i j
def tieT (w : Tw) (a b : Nat) (v : Int32) : Tw := (w.1, w.2.1, w.2.2.1, w.2.2.2.1, w.2.2.2.2.1, fun i j => if (i = a ∧ j = b) ∨ (i = b ∧ j = a) then v else w.2.2.2.2.2 i j)
theorem pX9_tie {G : jdG} {n : Nat} {Z : jdL} {J : jdJ} {K : jdI → jdJ → Prop} {I : jdI} {t : Nat} {w : Tw} {x1 x2 x3 : Int32} (ht : zTown Z t) (hts : t = 1 ∨ t = 5 ∨ t = 9) (hW : WX I) (hw : RX I t w) (h1 : 0 ≤ x1.toInt ∧ x1.toInt < w.1) (h2 : 0 ≤ x2.toInt ∧ x2.toInt < w.1) (hK : ∀ I2 : jdI, WX I2 → Fr (fun a k => a = t + 3) I I2 → RX I2 t (tieT w (Int32.toNatClampNeg x1) (Int32.toNatClampNeg x2) x3) → K I2 J) : Cl G mX9_tie n 0 0 [.ref (gb G + t), .int x1, .int x2, .int x3] Z I J (qv Z K) := by
  obtain ⟨w1, w2, w3, w4, w5⟩ := hw
  have hp := WX_town hW hts
  have m1 := i32_mulc x1 7 7 rfl (by omega) (by omega)
  have m2 := i32_mulc x2 7 7 rfl (by omega) (by omega)
  have a1 := i32_add (x1 * 7) x2 (by omega) (by omega)
  have a2 := i32_add (x2 * 7) x1 (by omega) (by omega)
  have n1 := tn_eq x1
  have n2 := tn_eq x2
  have n3 := tn_eq ((x1 * 7) + x2)
  have n4 := tn_eq ((x2 * 7) + x1)
  refine eX9_tie ht ⟨vp_of (by omega) (by omega), vp_of (by omega) (by omega), ?_⟩
  have f0 : Fr (fun a k => a = t + 3) I (uI (uI I (t + 3) (Int32.toNatClampNeg ((x1 * 7) + x2)) x3) (t + 3) (Int32.toNatClampNeg ((x2 * 7) + x1)) x3) := Fr_uI (Fr_uI Fr.rf rfl) rfl
  refine hK _ (WX_fr hW f0 (fun a k h1 h2 => by omega)) f0 ⟨?_, fun i hi => ?_, ?_, ?_, fun i j hi hj hne => ?_⟩
  · rw [f0 t 3 (by omega)]
    exact w1
  · rw [f0 (t + 1) i (by omega), f0 (t + 2) i (by omega)]
    exact w2 i hi
  · rw [f0 t 4 (by omega)]
    exact w3
  · rw [f0 t 5 (by omega)]
    exact w4
  · have hi : (i : Int) < w.1 := hi
    have hj : (j : Int) < w.1 := hj
    show _ = if (i = Int32.toNatClampNeg x1 ∧ j = Int32.toNatClampNeg x2) ∨ (i = Int32.toNatClampNeg x2 ∧ j = Int32.toNatClampNeg x1) then x3 else w.2.2.2.2.2 i j
    rw [uI_ap, uI_ap]
    by_cases c2 : i = Int32.toNatClampNeg x2 ∧ j = Int32.toNatClampNeg x1
    · rw [if_pos (by omega), if_pos (Or.inr c2)]
    · by_cases c1 : i = Int32.toNatClampNeg x1 ∧ j = Int32.toNatClampNeg x2
      · rw [if_neg (by omega), if_pos (by omega), if_pos (Or.inl c1)]
      · rw [if_neg (by omega), if_neg (by omega), if_neg (by omega)]
        exact w5 i j hi hj hne
theorem pX12_knows {G : jdG} {n : Nat} {Z : jdL} {J : jdJ} {K : jdI → jdJ → Prop} {I : jdI} {t : Nat} {w : Tw} {x1 x2 x3 : Int32} (ht : zModel Z t) (hW : WM 7 t I) (hw : RM I t w) (h1 : 0 ≤ x1.toInt ∧ x1.toInt < w.1) (h2 : 0 ≤ x2.toInt ∧ x2.toInt < w.1) (hK : ∀ I2 : jdI, WM 7 t I2 → Fr (fun a k => t + 21 ≤ a ∧ a ≤ t + 28) I I2 → RM I2 t (tieT w (Int32.toNatClampNeg x1) (Int32.toNatClampNeg x2) x3) → K I2 J) : Cl G mX12_knows n 0 0 [.ref (gb G + t), .int x1, .int x2, .int x3] Z I J (qv Z K) := by
  obtain ⟨w1, w2, w3, w4, w5⟩ := hw
  have hp := WM_f hW
  have n1 := tn_eq x1
  have n2 := tn_eq x2
  refine eX12_knows ht ⟨vp_of (by omega) (by omega), vp_of (by omega) (by omega), vp_of (by omega) (by omega), vp_of (by omega) (by omega), ?_⟩
  have f0 : Fr (fun a k => t + 21 ≤ a ∧ a ≤ t + 28) I (uI (uI I (t + 21 + (Int32.toNatClampNeg x1)) (Int32.toNatClampNeg x2) x3) (t + 21 + (Int32.toNatClampNeg x2)) (Int32.toNatClampNeg x1) x3) := Fr_uI (Fr_uI Fr.rf (by omega)) (by omega)
  refine hK _ (WM_fr5 hW f0 (by intro k; omega) (by intro k; omega) (by intro k; omega) (by intro k; omega) (by intro k; omega)) f0 ⟨?_, fun i hi => ?_, ?_, ?_, fun i j hi hj hne => ?_⟩
  · rw [f0 t 10 (by omega)]
    exact w1
  · rw [f0 (t + 18) i (by omega), f0 (t + 19) i (by omega)]
    exact w2 i hi
  · rw [f0 t 14 (by omega)]
    exact w3
  · rw [f0 t 15 (by omega)]
    exact w4
  · have hi : (i : Int) < w.1 := hi
    have hj : (j : Int) < w.1 := hj
    show _ = if (i = Int32.toNatClampNeg x1 ∧ j = Int32.toNatClampNeg x2) ∨ (i = Int32.toNatClampNeg x2 ∧ j = Int32.toNatClampNeg x1) then x3 else w.2.2.2.2.2 i j
    rw [uI_ap, uI_ap]
    by_cases c2 : i = Int32.toNatClampNeg x2 ∧ j = Int32.toNatClampNeg x1
    · rw [if_pos (by omega), if_pos (Or.inr c2)]
    · by_cases c1 : i = Int32.toNatClampNeg x1 ∧ j = Int32.toNatClampNeg x2
      · rw [if_neg (by omega), if_pos (by omega), if_pos (Or.inl c1)]
      · rw [if_neg (by omega), if_neg (by omega), if_neg (by omega)]
        exact w5 i j hi hj hne
def addT (w : Tw) (h c : Int32) : Tw := (w.1 + 1, (fun i => if (i : Int) = w.1 then h else w.2.1 i), (fun i => if (i : Int) = w.1 then c else w.2.2.1 i), w.2.2.2.1, w.2.2.2.2.1, fun i j => if (i : Int) = w.1 ∨ (j : Int) = w.1 then -1 else w.2.2.2.2.2 i j)
theorem pX9_add_43 {G : jdG} {n rc rs : Nat} {Z : jdL} {J : jdJ} {K : Int32 → jdI → jdJ → Prop} {I0 : jdI} {t : Nat} {w : Tw} {x1 x2 x3 : Int32} (ht : zTown Z t) (hts : t = 1 ∨ t = 5 ∨ t = 9) (hx3 : x3.toInt = w.1) (hP : 0 ≤ w.1 ∧ w.1 < 7) (hK : ∀ (v : Int32) (I2 : jdI), WX I2 → Fr (fun a k => (a = t ∧ k = 3) ∨ (t + 1 ≤ a ∧ a ≤ t + 3)) I0 I2 → RX I2 t (addT w x1 x2) → v.toInt = w.1 → K v I2 J) : ∀ m : Nat, ∀ (I : jdI) (x4 : Int32), WX I → Fr (fun a k => (a = t ∧ k = 3) ∨ (t + 1 ≤ a ∧ a ≤ t + 3)) I0 I → (I t 3).toInt = w.1 + 1 → (∀ i : Nat, (i : Int) < w.1 + 1 → I (t + 1) i = (addT w x1 x2).2.1 i ∧ I (t + 2) i = (addT w x1 x2).2.2.1 i) → (I t 4).toInt = w.2.2.2.1 → (I t 5).toInt = w.2.2.2.2.1 → (∀ i j : Nat, (i : Int) < w.1 → (j : Int) < w.1 → i ≠ j → I (t + 3) (i * 7 + j) = w.2.2.2.2.2 i j) → (∀ j : Nat, (j : Int) < x4.toInt → I (t + 3) (x3.toInt.toNat * 7 + j) = -1 ∧ I (t + 3) (j * 7 + x3.toInt.toNat) = -1) → 0 ≤ x4.toInt ∧ x4.toInt ≤ w.1 → w.1 - x4.toInt < (m : Int) → Jd G mX9_add (jdFm G (qi Z K)) (n + 1) rc rs 43 [(0, .ref (gb G + t)), (1, .int x1), (2, .int x2), (3, .int x3), (4, .int x4)] [] Z I J := by
  intro m
  induction m with
  | zero =>
    intro I x4 hW hF a1 a2 a3 a4 a5 a6 hx hm
    omega
  | succ m ih =>
    intro I x4 hW hF a1 a2 a3 a4 a5 a6 hx hm
    have q1 : (1 : Int32).toInt = 1 := rfl
    have e1 := i32_add x4 1 (by omega) (by omega)
    have n3 := tn_eq x3
    have n4 := tn_eq x4
    refine rX9_add_43 ht ⟨fun hc => ?_, fun hc => ?_⟩
    · have hc := Int32.le_iff_toInt_le.mp hc
      refine hK x3 I hW hF ⟨a1, a2, a3, a4, fun i j hi hj hne => ?_⟩ hx3
      have hi : (i : Int) < w.1 + 1 := hi
      have hj : (j : Int) < w.1 + 1 := hj
      show _ = if (i : Int) = w.1 ∨ (j : Int) = w.1 then -1 else w.2.2.2.2.2 i j
      by_cases c : (i : Int) = w.1
      · have ei : i = x3.toInt.toNat := by omega
        rw [if_pos (Or.inl c), ei]
        exact (a6 j (by omega)).1
      · by_cases d : (j : Int) = w.1
        · have ej : j = x3.toInt.toNat := by omega
          rw [if_pos (Or.inr d), ej]
          exact (a6 i (by omega)).2
        · rw [if_neg (by omega)]
          exact a5 i j (by omega) (by omega) hne
    · have hc := mt Int32.le_iff_toInt_le.mpr hc
      have m1 := i32_mulc x3 7 7 rfl (by omega) (by omega)
      have m2 := i32_mulc x4 7 7 rfl (by omega) (by omega)
      have b1 := i32_add (x3 * 7) x4 (by omega) (by omega)
      have b2 := i32_add (x4 * 7) x3 (by omega) (by omega)
      have k1 := tn_eq ((x3 * 7) + x4)
      have k2 := tn_eq ((x4 * 7) + x3)
      refine eX9_tie ht ⟨vp_of (by omega) (by omega), vp_of (by omega) (by omega), ?_⟩
      have f0 : Fr (fun a k => a = t + 3) I (uI (uI I (t + 3) (Int32.toNatClampNeg ((x3 * 7) + x4)) (-1)) (t + 3) (Int32.toNatClampNeg ((x4 * 7) + x3)) (-1)) := Fr_uI (Fr_uI Fr.rf rfl) rfl
      refine ih _ (x4 + 1) (WX_fr hW f0 (fun a k h1 h2 => by omega)) (Fr.tr hF f0 (by intro a k h; omega)) (by rw [f0 t 3 (by omega)]; exact a1) (fun i hi => by rw [f0 (t + 1) i (by omega), f0 (t + 2) i (by omega)]; exact a2 i hi) (by rw [f0 t 4 (by omega)]; exact a3) (by rw [f0 t 5 (by omega)]; exact a4) (fun i j hi hj hne => ?_) (fun j hj => ?_) (by omega) (by omega)
      · rw [uI_ap, if_neg (by omega), uI_ap, if_neg (by omega)]
        exact a5 i j hi hj hne
      · by_cases c : (j : Int) < x4.toInt
        · obtain ⟨g1, g2⟩ := a6 j c
          refine ⟨?_, ?_⟩
          · rw [uI_ap, if_neg (by omega), uI_ap, if_neg (by omega)]
            exact g1
          · rw [uI_ap, if_neg (by omega), uI_ap, if_neg (by omega)]
            exact g2
        · have ej : j = x4.toInt.toNat := by omega
          refine ⟨?_, ?_⟩
          · rw [uI_ap, if_neg (by omega), uI_ap, if_pos (by omega)]
          · rw [uI_ap, if_pos (by omega)]
theorem pX9_add {G : jdG} {n : Nat} {Z : jdL} {J : jdJ} {K : Int32 → jdI → jdJ → Prop} {I : jdI} {t : Nat} {w : Tw} {x1 x2 : Int32} (ht : zTown Z t) (hts : t = 1 ∨ t = 5 ∨ t = 9) (hW : WX I) (hw : RX I t w) (hP : w.1 < 7) (hK : ∀ (v : Int32) (I2 : jdI), WX I2 → Fr (fun a k => (a = t ∧ k = 3) ∨ (t + 1 ≤ a ∧ a ≤ t + 3)) I I2 → RX I2 t (addT w x1 x2) → v.toInt = w.1 → K v I2 J) : Cl G mX9_add (n + 1) 0 0 [.ref (gb G + t), .int x1, .int x2] Z I J (qi Z K) := by
  obtain ⟨w1, w2, w3, w4, w5⟩ := hw
  have hp := WX_town hW hts
  have q7 : (7 : Int32).toInt = 7 := rfl
  have q1 : (1 : Int32).toInt = 1 := rfl
  have q0 : (0 : Int32).toInt = 0 := rfl
  have e1 := i32_add (I t 3) 1 (by omega) (by omega)
  have n3 := tn_eq (I t 3)
  refine eX9_add ht ⟨fun hc => ⟨vp_of (by omega) (by omega), vp_of (by omega) (by omega), ?_⟩, fun hc => absurd (Int32.lt_iff_toInt_lt.mpr (by omega)) hc⟩
  have f1 : WX (uI I t 3 ((I t 3) + 1)) := WX_uI hW (by first | exact okXo (by decide) | (unfold okX; refine ⟨?_, ?_, ?_, ?_, ?_, ?_, ?_, ?_, ?_, ?_⟩ <;> intro h <;> omega))
  have f2 : Fr (fun a k => t + 1 ≤ a ∧ a ≤ t + 2) (uI I t 3 ((I t 3) + 1)) (uI (uI (uI I t 3 ((I t 3) + 1)) (t + 1) (Int32.toNatClampNeg (I t 3)) x1) (t + 2) (Int32.toNatClampNeg (I t 3)) x2) := Fr_uI (Fr_uI Fr.rf (by omega)) (by omega)
  have f3 : Fr (fun a k => (a = t ∧ k = 3) ∨ (t + 1 ≤ a ∧ a ≤ t + 3)) I (uI (uI (uI I t 3 ((I t 3) + 1)) (t + 1) (Int32.toNatClampNeg (I t 3)) x1) (t + 2) (Int32.toNatClampNeg (I t 3)) x2) := Fr_uI (Fr_uI (Fr_uI Fr.rf (by omega)) (by omega)) (by omega)
  refine pX9_add_43 ht hts w1 ⟨by omega, hP⟩ hK 8 _ 0 (WX_fr f1 f2 (fun a k h1 h2 => by omega)) f3 ?_ (fun i hi => ?_) ?_ ?_ (fun i j hi hj hne => ?_) (fun j hj => by omega) (by omega) (by omega)
  · rw [f2 t 3 (by omega), uI_ap, if_pos ⟨rfl, rfl⟩]
    omega
  · show _ = (if (i : Int) = w.1 then x1 else w.2.1 i) ∧ _ = (if (i : Int) = w.1 then x2 else w.2.2.1 i)
    by_cases c : (i : Int) = w.1
    · rw [if_pos c, if_pos c]
      exact ⟨by rw [uI_ap, if_neg (by omega), uI_ap, if_pos ⟨rfl, by omega⟩], by rw [uI_ap, if_pos ⟨rfl, by omega⟩]⟩
    · rw [if_neg c, if_neg c]
      have h := w2 i (by omega)
      exact ⟨by rw [uI_ap, if_neg (by omega), uI_ap, if_neg (by omega), uI_ap, if_neg (by omega)]; exact h.1, by rw [uI_ap, if_neg (by omega), uI_ap, if_neg (by omega), uI_ap, if_neg (by omega)]; exact h.2⟩
  · rw [f2 t 4 (by omega), uI_ap, if_neg (by omega)]
    exact w3
  · rw [f2 t 5 (by omega), uI_ap, if_neg (by omega)]
    exact w4
  · rw [f2 (t + 3) _ (by omega), uI_ap, if_neg (by omega)]
    exact w5 i j hi hj hne
theorem pX12_addOne_22 {G : jdG} {n rc rs : Nat} {Z : jdL} {J : jdJ} {K : jdI → jdJ → Prop} {I0 : jdI} {t : Nat} {w : Tw} {x1 x2 : Int32} (ht : zModel Z t) (hP : 0 ≤ w.1 ∧ w.1 < 7) (hK : ∀ I2 : jdI, WM 7 t I2 → Fr (fun a k => (a = t ∧ k = 10) ∨ a = t + 18 ∨ a = t + 19 ∨ (t + 21 ≤ a ∧ a ≤ t + 28)) I0 I2 → RM I2 t (addT w x1 x2) → K I2 J) : ∀ m : Nat, ∀ (I : jdI) (x3 : Int32), WM 7 t I → Fr (fun a k => (a = t ∧ k = 10) ∨ a = t + 18 ∨ a = t + 19 ∨ (t + 21 ≤ a ∧ a ≤ t + 28)) I0 I → (I t 10).toInt = w.1 → (∀ i : Nat, (i : Int) < w.1 + 1 → I (t + 18) i = (addT w x1 x2).2.1 i ∧ I (t + 19) i = (addT w x1 x2).2.2.1 i) → (I t 14).toInt = w.2.2.2.1 → (I t 15).toInt = w.2.2.2.2.1 → (∀ i j : Nat, (i : Int) < w.1 → (j : Int) < w.1 → i ≠ j → I (t + 21 + i) j = w.2.2.2.2.2 i j) → (∀ j : Nat, (j : Int) < x3.toInt → I (t + 21 + w.1.toNat) j = -1 ∧ I (t + 21 + j) w.1.toNat = -1) → 0 ≤ x3.toInt ∧ x3.toInt ≤ w.1 → w.1 - x3.toInt < (m : Int) → Jd G mX12_addOne (jdFm G (qv Z K)) n rc rs 22 [(0, .ref (gb G + t)), (1, .int x1), (2, .int x2), (3, .int x3)] [] Z I J := by
  intro m
  induction m with
  | zero =>
    intro I x3 hW hF a1 a2 a3 a4 a5 a6 hx hm
    omega
  | succ m ih =>
    intro I x3 hW hF a1 a2 a3 a4 a5 a6 hx hm
    have hp := WM_f hW
    have q1 : (1 : Int32).toInt = 1 := rfl
    have e1 := i32_add x3 1 (by omega) (by omega)
    have e2 := i32_add (I t 10) 1 (by omega) (by omega)
    have n3 := tn_eq x3
    have n4 := tn_eq (I t 10)
    refine rX12_addOne_22 ht ⟨fun hc => ?_, fun hc => ?_⟩
    · have hc := Int32.le_iff_toInt_le.mp hc
      have f0 : Fr (fun a k => a = t ∧ k = 10) I (uI I t 10 ((I t 10) + 1)) := Fr_uI Fr.rf ⟨rfl, rfl⟩
      refine hK _ (WM_uI hW (by first | exact okMo (by decide) (by decide) (by decide) (by decide) (by decide) | exact okMf (by decide) (by decide) (by decide) (by decide) (by decide) (by decide) (by decide) (by decide) | exact okM30 (by omega) | exact okM42 (by omega) | exact okM33 (by omega) | exact okM10 (by omega) | exact okM8 (by omega) | exact okM22 (by omega) | exact okM24 (by omega) | exact okM14 (by omega) | exact okMa31 (by omega) | exact okMa35 (by omega) | exact okMa36 (by omega) | exact okMa3 (by omega) | exact okMr (by omega) | (unfold okM; refine ⟨?_, ?_, ?_, ?_, ?_, ?_, ?_, ?_, ?_, ?_, ?_, ?_⟩ <;> intro h <;> omega))) (Fr.tr hF f0 (by intro a k h; omega)) ⟨?_, fun i hi => ?_, ?_, ?_, fun i j hi hj hne => ?_⟩
      · rw [uI_ap, if_pos ⟨rfl, rfl⟩]
        show _ = w.1 + 1
        omega
      · rw [f0 (t + 18) i (by omega), f0 (t + 19) i (by omega)]
        exact a2 i hi
      · rw [f0 t 14 (by omega)]
        exact a3
      · rw [f0 t 15 (by omega)]
        exact a4
      · have hi : (i : Int) < w.1 + 1 := hi
        have hj : (j : Int) < w.1 + 1 := hj
        rw [f0 (t + 21 + i) j (by omega)]
        show _ = if (i : Int) = w.1 ∨ (j : Int) = w.1 then -1 else w.2.2.2.2.2 i j
        by_cases c : (i : Int) = w.1
        · have ei : i = w.1.toNat := by omega
          rw [if_pos (Or.inl c), ei]
          exact (a6 j (by omega)).1
        · by_cases d : (j : Int) = w.1
          · have ej : j = w.1.toNat := by omega
            rw [if_pos (Or.inr d), ej]
            exact (a6 i (by omega)).2
          · rw [if_neg (by omega)]
            exact a5 i j (by omega) (by omega) hne
    · have hc := mt Int32.le_iff_toInt_le.mpr hc
      have e9 : (uI I (t + 21 + (Int32.toNatClampNeg (I t 10))) (Int32.toNatClampNeg x3) (-1)) t 10 = I t 10 := by rw [uI_ap, if_neg (by omega)]
      refine ⟨vp_of (by omega) (by omega), vp_of (by omega) (by omega), vp_of (by omega) (by omega), by rw [e9]; exact vp_of (by omega) (by omega), ?_⟩
      rw [e9]
      have f0 : Fr (fun a k => t + 21 ≤ a ∧ a ≤ t + 28) I (uI (uI I (t + 21 + (Int32.toNatClampNeg (I t 10))) (Int32.toNatClampNeg x3) (-1)) (t + 21 + (Int32.toNatClampNeg x3)) (Int32.toNatClampNeg (I t 10)) (-1)) := Fr_uI (Fr_uI Fr.rf (by omega)) (by omega)
      refine ih _ (x3 + 1) (WM_fr5 hW f0 (by intro k; omega) (by intro k; omega) (by intro k; omega) (by intro k; omega) (by intro k; omega)) (Fr.tr hF f0 (by intro a k h; omega)) (by rw [f0 t 10 (by omega)]; exact a1) (fun i hi => by rw [f0 (t + 18) i (by omega), f0 (t + 19) i (by omega)]; exact a2 i hi) (by rw [f0 t 14 (by omega)]; exact a3) (by rw [f0 t 15 (by omega)]; exact a4) (fun i j hi hj hne => ?_) (fun j hj => ?_) (by omega) (by omega)
      · rw [uI_ap, if_neg (by omega), uI_ap, if_neg (by omega)]
        exact a5 i j hi hj hne
      · by_cases c : (j : Int) < x3.toInt
        · obtain ⟨g1, g2⟩ := a6 j c
          refine ⟨?_, ?_⟩
          · rw [uI_ap, if_neg (by omega), uI_ap, if_neg (by omega)]
            exact g1
          · rw [uI_ap, if_neg (by omega), uI_ap, if_neg (by omega)]
            exact g2
        · refine ⟨?_, ?_⟩
          · rw [uI_ap, if_neg (by omega), uI_ap, if_pos (by omega)]
          · rw [uI_ap, if_pos (by omega)]
theorem pX12_addOne {G : jdG} {n : Nat} {Z : jdL} {J : jdJ} {K : jdI → jdJ → Prop} {I : jdI} {t : Nat} {w : Tw} {x1 x2 : Int32} (ht : zModel Z t) (hW : WM 7 t I) (hw : RM I t w) (hP : w.1 < 7) (hK : ∀ I2 : jdI, WM 7 t I2 → Fr (fun a k => (a = t ∧ k = 10) ∨ a = t + 18 ∨ a = t + 19 ∨ (t + 21 ≤ a ∧ a ≤ t + 28)) I I2 → RM I2 t (addT w x1 x2) → K I2 J) : Cl G mX12_addOne n 0 0 [.ref (gb G + t), .int x1, .int x2] Z I J (qv Z K) := by
  obtain ⟨w1, w2, w3, w4, w5⟩ := hw
  have hp := WM_f hW
  have q0 : (0 : Int32).toInt = 0 := rfl
  have n3 := tn_eq (I t 10)
  refine eX12_addOne ht ⟨vp_of (by omega) (by omega), vp_of (by omega) (by omega), ?_⟩
  have f3 : Fr (fun a k => a = t + 18 ∨ a = t + 19) I (uI (uI I (t + 18) (Int32.toNatClampNeg (I t 10)) x1) (t + 19) (Int32.toNatClampNeg (I t 10)) x2) := Fr_uI (Fr_uI Fr.rf (by omega)) (by omega)
  refine pX12_addOne_22 ht ⟨by omega, hP⟩ hK 8 _ 0 (WM_fr5 hW f3 (by intro k; omega) (by intro k; omega) (by intro k; omega) (by intro k; omega) (by intro k; omega)) (Fr.tr Fr.rf f3 (by intro a k h; omega)) (by rw [f3 t 10 (by omega)]; exact w1) (fun i hi => ?_) (by rw [f3 t 14 (by omega)]; exact w3) (by rw [f3 t 15 (by omega)]; exact w4) (fun i j hi hj hne => by rw [f3 (t + 21 + i) j (by omega)]; exact w5 i j hi hj hne) (fun j hj => by omega) (by omega) (by omega)
  show _ = (if (i : Int) = w.1 then x1 else w.2.1 i) ∧ _ = (if (i : Int) = w.1 then x2 else w.2.2.1 i)
  by_cases c : (i : Int) = w.1
  · rw [if_pos c, if_pos c]
    exact ⟨by rw [uI_ap, if_neg (by omega), uI_ap, if_pos ⟨rfl, by omega⟩], by rw [uI_ap, if_pos ⟨rfl, by omega⟩]⟩
  · rw [if_neg c, if_neg c]
    have h := w2 i (by omega)
    exact ⟨by rw [uI_ap, if_neg (by omega), uI_ap, if_neg (by omega)]; exact h.1, by rw [uI_ap, if_neg (by omega), uI_ap, if_neg (by omega)]; exact h.2⟩
