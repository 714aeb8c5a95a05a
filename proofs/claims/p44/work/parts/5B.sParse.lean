/-! the pure parser -/
abbrev Q3 : Type := Int × Int × Int
/-- people, hours, costs, seats, memory, since when two know each other -/
abbrev Tw : Type := Int × (Nat → Int32) × (Nat → Int32) × Int × Int × (Nat → Nat → Int32)
noncomputable def adv (T : Nat → Int32) (n e : Int) : Q3 := Classical.epsilon (fun q : Q3 => TK T n e q.1 q.2.1 q.2.2)
theorem adv_eq {T : Nat → Int32} {n e tk s f : Int} (h0 : 0 ≤ e) (h : TK T n e tk s f) : adv T n e = (tk, s, f) := by
  have hs := Classical.epsilon_spec (p := fun q : Q3 => TK T n e q.1 q.2.1 q.2.2) ⟨(tk, s, f), h⟩
  obtain ⟨a, b, c⟩ := TK_uniq h0 h hs
  exact Prod.ext a.symm (Prod.ext b.symm c.symm)
/-- a number from lo to hi that is ok, and on to the next token; else the place of the fault -/
noncomputable def nm (T : Nat → Int32) (n : Int) (q : Q3) (lo hi : Int) (ok : Int → Bool) : Sum Int (Int × Q3) := if q.1 = 2 ∧ lo ≤ vl T q.2.1 q.2.2 ∧ vl T q.2.1 q.2.2 ≤ hi ∧ ok (vl T q.2.1 q.2.2) = true then .inr (vl T q.2.1 q.2.2, adv T n q.2.2) else .inl q.2.1
theorem nm_y {T : Nat → Int32} {n : Int} {q : Q3} {lo hi g : Int} {q2 : Q3} {ok : Int → Bool} (h : q.1 = 2 ∧ lo ≤ vl T q.2.1 q.2.2 ∧ vl T q.2.1 q.2.2 ≤ hi) (hk : ok (vl T q.2.1 q.2.2) = true) (e1 : g = vl T q.2.1 q.2.2) (e2 : adv T n q.2.2 = q2) : nm T n q lo hi ok = .inr (g, q2) := by
  unfold nm
  rw [if_pos ⟨h.1, h.2.1, h.2.2, hk⟩, e1, e2]
theorem nm_n {T : Nat → Int32} {n : Int} {q : Q3} {lo hi p : Int} {ok : Int → Bool} (h : ¬ (q.1 = 2 ∧ lo ≤ vl T q.2.1 q.2.2 ∧ vl T q.2.1 q.2.2 ≤ hi) ∨ ¬ ok (vl T q.2.1 q.2.2) = true) (e : p = q.2.1) : nm T n q lo hi ok = .inl p := by
  unfold nm
  rw [if_neg (fun z => h.elim (fun g => g ⟨z.1, z.2.1, z.2.2.1⟩) (fun g => g z.2.2.2)), e]
/-- where the scribe stands, where the model stands -/
def qx (I : jdI) : Q3 := ((I 25 2).toInt, (I 25 3).toInt, (I 25 4).toInt)
def qmo (I : jdI) (t : Nat) : Q3 := ((I t 23).toInt, (I t 24).toInt, (I t 22).toInt)
/-- the scribe's state is sound, over the tape T of n letters -/
def SX (T : Nat → Int32) (n : Int) (I : jdI) : Prop := I (25 + 1) = T ∧ (I 25 1).toInt = n ∧ TKp T n (I 25 2).toInt (I 25 3).toInt (I 25 4).toInt
def SM (T : Nat → Int32) (n : Int) (I : jdI) (t : Nat) : Prop := I (t + 16) = T ∧ (I t 8).toInt = n ∧ TKp T n (I t 23).toInt (I t 24).toInt (I t 22).toInt ∧ ((I t 23).toInt = 2 → (I t 25).toInt = vl T (I t 24).toInt (I t 22).toInt)
theorem pX5_advance {G : jdG} {n : Nat} {Z : jdL} {J : jdJ} {K : jdI → jdJ → Prop} {I : jdI} {T : Nat → Int32} {m : Int} (ht : zScribe Z 25) (hW : WX I) (hS : SX T m I) (hK : ∀ I2 : jdI, WX I2 → Fr (fun a k => a = 25) I I2 → SX T m I2 → qx I2 = adv T m (qx I).2.2 → (I2 25 5).toInt = (I 25 5).toInt → K I2 J) : Cl G mX5_advance (n + 1) 0 0 [.ref (gb G + 25)] Z I J (qv Z K) := by
  obtain ⟨s1, s2, s3⟩ := hS
  have hf := tkp_f s3
  have hw := WX_f hW
  refine fsfX5_advance ht hW (by omega) (fun I2 hW2 hF2 hp => ?_)
  obtain ⟨p1, p2, p3⟩ := hp
  rw [s1, s2] at p1
  have e : I2 (25 + 1) = T := by
    rw [← s1]
    funext k
    exact hF2 (25 + 1) k (by omega)
  refine hK I2 hW2 hF2 ⟨e, by omega, p1.2.2.1⟩ ?_ p3
  exact (adv_eq (by show 0 ≤ (I 25 4).toInt; omega) p1).symm
theorem pX5_readNumber {G : jdG} {n : Nat} {Z : jdL} {J : jdJ} {K : Int32 → jdI → jdJ → Prop} {I : jdI} {T : Nat → Int32} {m : Int} {x1 x2 x3 : Int32} {ok : Int → Bool} (ht : zScribe Z 25) (hW : WX I) (hS : SX T m I) (hx : 0 ≤ x1.toInt ∧ x2.toInt ≤ 99) (hok : ∀ w : Int32, x1.toInt ≤ w.toInt → w.toInt ≤ x2.toInt → (ok w.toInt = true ↔ x3.toInt = 0 ∨ ((x3 >>> (w &&& 31)) &&& 1).toInt = 0)) (hK : ∀ (v : Int32) (I2 : jdI), WX I2 → Fr (fun a k => a = 25) I I2 → ((nm T m (qx I) x1.toInt x2.toInt ok = .inr (v.toInt, qx I2) ∧ SX T m I2 ∧ x1.toInt ≤ v.toInt ∧ v.toInt ≤ x2.toInt) ∨ (nm T m (qx I) x1.toInt x2.toInt ok = .inl (I2 25 5).toInt ∧ v.toInt = -1)) → (I2 25 1).toInt = m → I2 (25 + 1) = T → K v I2 J) : Cl G mX5_readNumber (n + 2) 0 0 [.ref (gb G + 25), .int x1, .int x2, .int x3] Z I J (qi Z K) := by
  obtain ⟨s1, s2, s3⟩ := hS
  have hf := tkp_f s3
  have hw := WX_f hW
  refine fsfX5_readNumber ht hW (by rw [s1, s2]; exact s3) hx (fun v I2 hW2 hF2 hp => ?_)
  obtain ⟨p, p9⟩ := hp
  have e : I2 (25 + 1) = T := by
    rw [← s1]
    funext k
    exact hF2 (25 + 1) k (by omega)
  rw [s1, s2] at p
  refine hK v I2 hW2 hF2 ?_ (by omega) e
  rcases p with ⟨p1, p2, p3, p4, p5⟩ | ⟨p1, p2, p3⟩
  · refine Or.inl ⟨nm_y p1 ?_ p2 (adv_eq (by show 0 ≤ (I 25 4).toInt; omega) p4), ⟨e, by omega, p4.2.2.1⟩, by omega, by omega⟩
    show ok (vl T (I 25 3).toInt (I 25 4).toInt) = true
    rw [← p2]
    exact (hok v (by omega) (by omega)).mpr p3
  · refine Or.inr ⟨nm_n ?_ p2, p1⟩
    by_cases c : ((I 25 2).toInt = 2 ∧ x1.toInt ≤ vl T (I 25 3).toInt (I 25 4).toInt ∧ vl T (I 25 3).toInt (I 25 4).toInt ≤ x2.toInt)
    · refine Or.inr (fun h => ?_)
      rcases p3 with p3 | p3
      · exact p3 c
      · have ew : (Int32.ofInt (vl T (I 25 3).toInt (I 25 4).toInt)).toInt = vl T (I 25 3).toInt (I 25 4).toInt := Int32.toInt_ofInt_of_le (by omega) (by omega)
        have h2 := (hok (Int32.ofInt (vl T (I 25 3).toInt (I 25 4).toInt)) (by omega) (by omega)).mp (by rw [ew]; exact h)
        rcases h2 with h2 | h2
        · exact p3.1 h2
        · exact p3.2 _ ew h2
    · exact Or.inl c
theorem pX12_look {G : jdG} {n : Nat} {Z : jdL} {J : jdJ} {K : jdI → jdJ → Prop} {I : jdI} {t : Nat} {T : Nat → Int32} {m : Int} (ht : zModel Z t) (hW : WM 7 t I) (h1 : I (t + 16) = T) (h2 : (I t 8).toInt = m) (h3 : (I t 22).toInt ≤ m) (hK : ∀ I2 : jdI, WM 7 t I2 → Fr (fun a k => a = t ∧ 22 ≤ k ∧ k ≤ 25) I I2 → SM T m I2 t → qmo I2 t = adv T m (I t 22).toInt → K I2 J) : Cl G mX12_look (n + 1) 0 0 [.ref (gb G + t)] Z I J (qv Z K) := by
  have hw := WM_f hW
  refine fsfX12_look ht hW (by omega) (fun I2 hW2 hF2 hp => ?_)
  rw [h1, h2] at hp
  have e : I2 (t + 16) = T := by
    rw [← h1]
    funext k
    exact hF2 (t + 16) k (by omega)
  have e8 := congrArg Int32.toInt (hF2 t 8 (by omega))
  refine hK I2 hW2 hF2 ⟨e, by omega, hp.1.2.2.1, fun q => vl_of (hp.2 q) rfl ((tkp_f hp.1.2.2.1).2 (by omega)).2⟩ ?_
  exact (adv_eq (by omega) hp.1).symm
theorem pX12_number {G : jdG} {n : Nat} {Z : jdL} {J : jdJ} {K : Int32 → jdI → jdJ → Prop} {I : jdI} {t : Nat} {T : Nat → Int32} {m : Int} {x1 x2 x3 : Int32} (ht : zModel Z t) (hW : WM 7 t I) (hS : SM T m I t) (hx1 : x1.toInt = 0 ∨ x1.toInt = 1) (hx : 0 ≤ x2.toInt ∧ x3.toInt ≤ 99) (hK : ∀ (v : Int32) (I2 : jdI), WM 7 t I2 → Fr (fun a k => (a = t ∧ 22 ≤ k ∧ k ≤ 26) ∨ a = t + 29) I I2 → ((v.toInt = 1 ∧ SM T m I2 t ∧ ∃ g : Int, nm T m (qmo I t) x2.toInt x3.toInt (fun _ => true) = .inr (g, qmo I2 t) ∧ x2.toInt ≤ g ∧ g ≤ x3.toInt ∧ (I2 t 26).toInt = (I t 26).toInt ∧ (x1.toInt = 0 → (I2 (t + 29) 0).toInt = g ∧ (I2 (t + 29) 1).toInt = (I (t + 29) 1).toInt) ∧ (x1.toInt = 1 → (I2 (t + 29) 1).toInt = g ∧ (I2 (t + 29) 0).toInt = (I (t + 29) 0).toInt)) ∨ (v.toInt = 0 ∧ nm T m (qmo I t) x2.toInt x3.toInt (fun _ => true) = .inl (I2 t 26).toInt)) → K v I2 J) : Cl G mX12_number (n + 2) 0 0 [.ref (gb G + t), .int x1, .int x2, .int x3] Z I J (qi Z K) := by
  obtain ⟨s1, s2, s3, s4⟩ := hS
  have hf := tkp_f s3
  have hw := WM_f hW
  refine fsfX12_number ht hW (by rw [s1, s2]; exact s3) (by rw [s1]; exact s4) hx1 hx (fun v I2 hW2 hF2 hp => ?_)
  have e : I2 (t + 16) = T := by
    rw [← s1]
    funext k
    exact hF2 (t + 16) k (by omega)
  have e8 := congrArg Int32.toInt (hF2 t 8 (by omega))
  rw [s1, s2] at hp
  refine hK v I2 hW2 hF2 ?_
  rcases hp with ⟨p1, p2, p3, p4, p5, p6, p7⟩ | ⟨p1, p2, p3⟩
  · exact Or.inl ⟨p2, ⟨e, by omega, p3.2.2.1, p4⟩, _, nm_y p1 rfl rfl (adv_eq (by show 0 ≤ (I t 22).toInt; omega) p3), p1.2.1, p1.2.2, p5, p6, p7⟩
  · exact Or.inr ⟨p2, nm_n (Or.inl p1) p3⟩
theorem pX12_tells {G : jdG} {n : Nat} {Z : jdL} {J : jdJ} {K : Int32 → jdI → jdJ → Prop} {I : jdI} {t : Nat} {T : Nat → Int32} {m : Int} {x1 x2 : Int32} (ht : zModel Z t) (hW : WM 7 t I) (h1 : I (t + 16) = T) (h2 : (I t 8).toInt = m) (h3 : (I t 22).toInt ≤ m) (hx : 0 ≤ x1.toInt ∧ x2.toInt ≤ 99) (hK : ∀ (v : Int32) (I2 : jdI), WM 7 t I2 → Fr (fun a k => (a = t ∧ 22 ≤ k ∧ k ≤ 26) ∨ a = t + 29) I I2 → ((v.toInt = 1 ∧ SM T m I2 t ∧ nm T m (adv T m (I t 22).toInt) x1.toInt x2.toInt (fun _ => true) = .inr ((I2 (t + 29) 0).toInt, qmo I2 t) ∧ x1.toInt ≤ (I2 (t + 29) 0).toInt ∧ (I2 (t + 29) 0).toInt ≤ x2.toInt ∧ (I2 t 26).toInt = (I t 26).toInt) ∨ (v.toInt = 0 ∧ nm T m (adv T m (I t 22).toInt) x1.toInt x2.toInt (fun _ => true) = .inl (I2 t 26).toInt)) → K v I2 J) : Cl G mX12_tells (n + 3) 0 0 [.ref (gb G + t), .int x1, .int x2] Z I J (qi Z K) := by
  refine eX12_tells ht ?_
  refine pX12_look ht hW h1 h2 h3 (fun I1 hW1 hF1 hS1 hq => ?_)
  refine pX12_number ht hW1 hS1 (Or.inl rfl) hx (fun v I3 hW3 hF3 hp => ?_)
  have hF : Fr (fun a k => (a = t ∧ 22 ≤ k ∧ k ≤ 26) ∨ a = t + 29) I I3 := Fr.tr (Fr.tr Fr.rf hF1 (by intro a k h; omega)) hF3 (by intro a k h; omega)
  have e26 := congrArg Int32.toInt (hF1 t 26 (by omega))
  rw [hq] at hp
  rcases hp with ⟨p1, p2, g, p3, p4, p5, p6, p7, _⟩ | ⟨p1, p2⟩
  · refine ⟨narrow_b (Or.inr p1), hK v I3 hW3 hF (Or.inl ⟨p1, p2, ?_, ?_, ?_, by omega⟩)⟩
    · rw [(p7 rfl).1]
      exact p3
    · rw [(p7 rfl).1]
      exact p4
    · rw [(p7 rfl).1]
      exact p5
  · exact ⟨narrow_b (Or.inl p1), hK v I3 hW3 hF (Or.inr ⟨p1, p2⟩)⟩
/-- the memory of X holds the town w at b; the model's at t -/
def RX (I : jdI) (b : Nat) (w : Tw) : Prop := (I b 3).toInt = w.1 ∧ (∀ i : Nat, (i : Int) < w.1 → I (b + 1) i = w.2.1 i ∧ I (b + 2) i = w.2.2.1 i) ∧ (I b 4).toInt = w.2.2.2.1 ∧ (I b 5).toInt = w.2.2.2.2.1 ∧ ∀ i j : Nat, (i : Int) < w.1 → (j : Int) < w.1 → i ≠ j → I (b + 3) (i * 7 + j) = w.2.2.2.2.2 i j
def RM (I : jdI) (t : Nat) (w : Tw) : Prop := (I t 10).toInt = w.1 ∧ (∀ i : Nat, (i : Int) < w.1 → I (t + 18) i = w.2.1 i ∧ I (t + 19) i = w.2.2.1 i) ∧ (I t 14).toInt = w.2.2.2.1 ∧ (I t 15).toInt = w.2.2.2.2.1 ∧ ∀ i j : Nat, (i : Int) < w.1 → (j : Int) < w.1 → i ≠ j → I (t + 21 + i) j = w.2.2.2.2.2 i j
def tieT (w : Tw) (a b : Nat) (v : Int32) : Tw := (w.1, w.2.1, w.2.2.1, w.2.2.2.1, w.2.2.2.2.1, fun i j => if (i = a ∧ j = b) ∨ (i = b ∧ j = a) then v else w.2.2.2.2.2 i j)
theorem pX9_tie {G : jdG} {n : Nat} {Z : jdL} {J : jdJ} {K : jdI → jdJ → Prop} {I : jdI} {t : Nat} {w : Tw} {x1 x2 x3 : Int32} (ht : zTown Z t) (hts : t = 1 ∨ t = 5 ∨ t = 9) (hW : WX I) (hw : RX I t w) (h1 : 0 ≤ x1.toInt ∧ x1.toInt < w.1) (h2 : 0 ≤ x2.toInt ∧ x2.toInt < w.1) (hK : ∀ I2 : jdI, WX I2 → Fr (fun a k => a = t + 3) I I2 → RX I2 t (tieT w (Int32.toNatClampNeg x1) (Int32.toNatClampNeg x2) x3) → K I2 J) : Cl G mX9_tie n 0 0 [.ref (gb G + t), .int x1, .int x2, .int x3] Z I J (qv Z K) := by
  obtain ⟨w1, w2, w3, w4, w5⟩ := hw
  have hp := WX_town hW hts
  have m1 := i32_mulc x1 7 7 rfl (by omega) (by omega)
  have m2 := i32_mulc x2 7 7 rfl (by omega) (by omega)
  have a1 := i32_add (x1 * 7) x2 (by omega) (by omega)
  have a2 := i32_add (x2 * 7) x1 (by omega) (by omega)
  have n1 := tn_eq x1
  have n2 := tn_eq x2
  have n3 := tn_eq ((x1 * 7) + x2)
  have n4 := tn_eq ((x2 * 7) + x1)
  refine eX9_tie ht ⟨vp_of (by omega) (by omega), vp_of (by omega) (by omega), ?_⟩
  have f0 : Fr (fun a k => a = t + 3) I (uI (uI I (t + 3) (Int32.toNatClampNeg ((x1 * 7) + x2)) x3) (t + 3) (Int32.toNatClampNeg ((x2 * 7) + x1)) x3) := Fr_uI (Fr_uI Fr.rf rfl) rfl
  refine hK _ (WX_fr hW f0 (fun a k h1 h2 => by omega)) f0 ⟨?_, fun i hi => ?_, ?_, ?_, fun i j hi hj hne => ?_⟩
  · rw [f0 t 3 (by omega)]
    exact w1
  · rw [f0 (t + 1) i (by omega), f0 (t + 2) i (by omega)]
    exact w2 i hi
  · rw [f0 t 4 (by omega)]
    exact w3
  · rw [f0 t 5 (by omega)]
    exact w4
  · have hi : (i : Int) < w.1 := hi
    have hj : (j : Int) < w.1 := hj
    show _ = if (i = Int32.toNatClampNeg x1 ∧ j = Int32.toNatClampNeg x2) ∨ (i = Int32.toNatClampNeg x2 ∧ j = Int32.toNatClampNeg x1) then x3 else w.2.2.2.2.2 i j
    rw [uI_ap, uI_ap]
    by_cases c2 : i = Int32.toNatClampNeg x2 ∧ j = Int32.toNatClampNeg x1
    · rw [if_pos (by omega), if_pos (Or.inr c2)]
    · by_cases c1 : i = Int32.toNatClampNeg x1 ∧ j = Int32.toNatClampNeg x2
      · rw [if_neg (by omega), if_pos (by omega), if_pos (Or.inl c1)]
      · rw [if_neg (by omega), if_neg (by omega), if_neg (by omega)]
        exact w5 i j hi hj hne
theorem pX12_knows {G : jdG} {n : Nat} {Z : jdL} {J : jdJ} {K : jdI → jdJ → Prop} {I : jdI} {t : Nat} {w : Tw} {x1 x2 x3 : Int32} (ht : zModel Z t) (hW : WM 7 t I) (hw : RM I t w) (h1 : 0 ≤ x1.toInt ∧ x1.toInt < w.1) (h2 : 0 ≤ x2.toInt ∧ x2.toInt < w.1) (hK : ∀ I2 : jdI, WM 7 t I2 → Fr (fun a k => t + 21 ≤ a ∧ a ≤ t + 28) I I2 → RM I2 t (tieT w (Int32.toNatClampNeg x1) (Int32.toNatClampNeg x2) x3) → K I2 J) : Cl G mX12_knows n 0 0 [.ref (gb G + t), .int x1, .int x2, .int x3] Z I J (qv Z K) := by
  obtain ⟨w1, w2, w3, w4, w5⟩ := hw
  have hp := WM_f hW
  have n1 := tn_eq x1
  have n2 := tn_eq x2
  refine eX12_knows ht ⟨vp_of (by omega) (by omega), vp_of (by omega) (by omega), vp_of (by omega) (by omega), vp_of (by omega) (by omega), ?_⟩
  have f0 : Fr (fun a k => t + 21 ≤ a ∧ a ≤ t + 28) I (uI (uI I (t + 21 + (Int32.toNatClampNeg x1)) (Int32.toNatClampNeg x2) x3) (t + 21 + (Int32.toNatClampNeg x2)) (Int32.toNatClampNeg x1) x3) := Fr_uI (Fr_uI Fr.rf (by omega)) (by omega)
  refine hK _ (WM_fr5 hW f0 (by intro k; omega) (by intro k; omega) (by intro k; omega) (by intro k; omega) (by intro k; omega)) f0 ⟨?_, fun i hi => ?_, ?_, ?_, fun i j hi hj hne => ?_⟩
  · rw [f0 t 10 (by omega)]
    exact w1
  · rw [f0 (t + 18) i (by omega), f0 (t + 19) i (by omega)]
    exact w2 i hi
  · rw [f0 t 14 (by omega)]
    exact w3
  · rw [f0 t 15 (by omega)]
    exact w4
  · have hi : (i : Int) < w.1 := hi
    have hj : (j : Int) < w.1 := hj
    show _ = if (i = Int32.toNatClampNeg x1 ∧ j = Int32.toNatClampNeg x2) ∨ (i = Int32.toNatClampNeg x2 ∧ j = Int32.toNatClampNeg x1) then x3 else w.2.2.2.2.2 i j
    rw [uI_ap, uI_ap]
    by_cases c2 : i = Int32.toNatClampNeg x2 ∧ j = Int32.toNatClampNeg x1
    · rw [if_pos (by omega), if_pos (Or.inr c2)]
    · by_cases c1 : i = Int32.toNatClampNeg x1 ∧ j = Int32.toNatClampNeg x2
      · rw [if_neg (by omega), if_pos (by omega), if_pos (Or.inl c1)]
      · rw [if_neg (by omega), if_neg (by omega), if_neg (by omega)]
        exact w5 i j hi hj hne
def addT (w : Tw) (h c : Int32) : Tw := (w.1 + 1, (fun i => if (i : Int) = w.1 then h else w.2.1 i), (fun i => if (i : Int) = w.1 then c else w.2.2.1 i), w.2.2.2.1, w.2.2.2.2.1, fun i j => if (i : Int) = w.1 ∨ (j : Int) = w.1 then -1 else w.2.2.2.2.2 i j)
theorem pX9_add_43 {G : jdG} {n rc rs : Nat} {Z : jdL} {J : jdJ} {K : Int32 → jdI → jdJ → Prop} {I0 : jdI} {t : Nat} {w : Tw} {x1 x2 x3 : Int32} (ht : zTown Z t) (hts : t = 1 ∨ t = 5 ∨ t = 9) (hx3 : x3.toInt = w.1) (hP : 0 ≤ w.1 ∧ w.1 < 7) (hK : ∀ (v : Int32) (I2 : jdI), WX I2 → Fr (fun a k => (a = t ∧ k = 3) ∨ (t + 1 ≤ a ∧ a ≤ t + 3)) I0 I2 → RX I2 t (addT w x1 x2) → v.toInt = w.1 → K v I2 J) : ∀ m : Nat, ∀ (I : jdI) (x4 : Int32), WX I → Fr (fun a k => (a = t ∧ k = 3) ∨ (t + 1 ≤ a ∧ a ≤ t + 3)) I0 I → (I t 3).toInt = w.1 + 1 → (∀ i : Nat, (i : Int) < w.1 + 1 → I (t + 1) i = (addT w x1 x2).2.1 i ∧ I (t + 2) i = (addT w x1 x2).2.2.1 i) → (I t 4).toInt = w.2.2.2.1 → (I t 5).toInt = w.2.2.2.2.1 → (∀ i j : Nat, (i : Int) < w.1 → (j : Int) < w.1 → i ≠ j → I (t + 3) (i * 7 + j) = w.2.2.2.2.2 i j) → (∀ j : Nat, (j : Int) < x4.toInt → I (t + 3) (x3.toInt.toNat * 7 + j) = -1 ∧ I (t + 3) (j * 7 + x3.toInt.toNat) = -1) → 0 ≤ x4.toInt ∧ x4.toInt ≤ w.1 → w.1 - x4.toInt < (m : Int) → Jd G mX9_add (jdFm G (qi Z K)) (n + 1) rc rs 43 [(0, .ref (gb G + t)), (1, .int x1), (2, .int x2), (3, .int x3), (4, .int x4)] [] Z I J := by
  intro m
  induction m with
  | zero =>
    intro I x4 hW hF a1 a2 a3 a4 a5 a6 hx hm
    omega
  | succ m ih =>
    intro I x4 hW hF a1 a2 a3 a4 a5 a6 hx hm
    have q1 : (1 : Int32).toInt = 1 := rfl
    have e1 := i32_add x4 1 (by omega) (by omega)
    have n3 := tn_eq x3
    have n4 := tn_eq x4
    refine rX9_add_43 ht ⟨fun hc => ?_, fun hc => ?_⟩
    · have hc := Int32.le_iff_toInt_le.mp hc
      refine hK x3 I hW hF ⟨a1, a2, a3, a4, fun i j hi hj hne => ?_⟩ hx3
      have hi : (i : Int) < w.1 + 1 := hi
      have hj : (j : Int) < w.1 + 1 := hj
      show _ = if (i : Int) = w.1 ∨ (j : Int) = w.1 then -1 else w.2.2.2.2.2 i j
      by_cases c : (i : Int) = w.1
      · have ei : i = x3.toInt.toNat := by omega
        rw [if_pos (Or.inl c), ei]
        exact (a6 j (by omega)).1
      · by_cases d : (j : Int) = w.1
        · have ej : j = x3.toInt.toNat := by omega
          rw [if_pos (Or.inr d), ej]
          exact (a6 i (by omega)).2
        · rw [if_neg (by omega)]
          exact a5 i j (by omega) (by omega) hne
    · have hc := mt Int32.le_iff_toInt_le.mpr hc
      have m1 := i32_mulc x3 7 7 rfl (by omega) (by omega)
      have m2 := i32_mulc x4 7 7 rfl (by omega) (by omega)
      have b1 := i32_add (x3 * 7) x4 (by omega) (by omega)
      have b2 := i32_add (x4 * 7) x3 (by omega) (by omega)
      have k1 := tn_eq ((x3 * 7) + x4)
      have k2 := tn_eq ((x4 * 7) + x3)
      refine eX9_tie ht ⟨vp_of (by omega) (by omega), vp_of (by omega) (by omega), ?_⟩
      have f0 : Fr (fun a k => a = t + 3) I (uI (uI I (t + 3) (Int32.toNatClampNeg ((x3 * 7) + x4)) (-1)) (t + 3) (Int32.toNatClampNeg ((x4 * 7) + x3)) (-1)) := Fr_uI (Fr_uI Fr.rf rfl) rfl
      refine ih _ (x4 + 1) (WX_fr hW f0 (fun a k h1 h2 => by omega)) (Fr.tr hF f0 (by intro a k h; omega)) (by rw [f0 t 3 (by omega)]; exact a1) (fun i hi => by rw [f0 (t + 1) i (by omega), f0 (t + 2) i (by omega)]; exact a2 i hi) (by rw [f0 t 4 (by omega)]; exact a3) (by rw [f0 t 5 (by omega)]; exact a4) (fun i j hi hj hne => ?_) (fun j hj => ?_) (by omega) (by omega)
      · rw [uI_ap, if_neg (by omega), uI_ap, if_neg (by omega)]
        exact a5 i j hi hj hne
      · by_cases c : (j : Int) < x4.toInt
        · obtain ⟨g1, g2⟩ := a6 j c
          refine ⟨?_, ?_⟩
          · rw [uI_ap, if_neg (by omega), uI_ap, if_neg (by omega)]
            exact g1
          · rw [uI_ap, if_neg (by omega), uI_ap, if_neg (by omega)]
            exact g2
        · have ej : j = x4.toInt.toNat := by omega
          refine ⟨?_, ?_⟩
          · rw [uI_ap, if_neg (by omega), uI_ap, if_pos (by omega)]
          · rw [uI_ap, if_pos (by omega)]
theorem pX9_add {G : jdG} {n : Nat} {Z : jdL} {J : jdJ} {K : Int32 → jdI → jdJ → Prop} {I : jdI} {t : Nat} {w : Tw} {x1 x2 : Int32} (ht : zTown Z t) (hts : t = 1 ∨ t = 5 ∨ t = 9) (hW : WX I) (hw : RX I t w) (hP : w.1 < 7) (hK : ∀ (v : Int32) (I2 : jdI), WX I2 → Fr (fun a k => (a = t ∧ k = 3) ∨ (t + 1 ≤ a ∧ a ≤ t + 3)) I I2 → RX I2 t (addT w x1 x2) → v.toInt = w.1 → K v I2 J) : Cl G mX9_add (n + 1) 0 0 [.ref (gb G + t), .int x1, .int x2] Z I J (qi Z K) := by
  obtain ⟨w1, w2, w3, w4, w5⟩ := hw
  have hp := WX_town hW hts
  have q7 : (7 : Int32).toInt = 7 := rfl
  have q1 : (1 : Int32).toInt = 1 := rfl
  have q0 : (0 : Int32).toInt = 0 := rfl
  have e1 := i32_add (I t 3) 1 (by omega) (by omega)
  have n3 := tn_eq (I t 3)
  refine eX9_add ht ⟨fun hc => ⟨vp_of (by omega) (by omega), vp_of (by omega) (by omega), ?_⟩, fun hc => absurd (Int32.lt_iff_toInt_lt.mpr (by omega)) hc⟩
  have f1 : WX (uI I t 3 ((I t 3) + 1)) := WX_uI hW (by first | exact okXo (by decide) | (unfold okX; refine ⟨?_, ?_, ?_, ?_, ?_, ?_, ?_, ?_, ?_, ?_⟩ <;> intro h <;> omega))
  have f2 : Fr (fun a k => t + 1 ≤ a ∧ a ≤ t + 2) (uI I t 3 ((I t 3) + 1)) (uI (uI (uI I t 3 ((I t 3) + 1)) (t + 1) (Int32.toNatClampNeg (I t 3)) x1) (t + 2) (Int32.toNatClampNeg (I t 3)) x2) := Fr_uI (Fr_uI Fr.rf (by omega)) (by omega)
  have f3 : Fr (fun a k => (a = t ∧ k = 3) ∨ (t + 1 ≤ a ∧ a ≤ t + 3)) I (uI (uI (uI I t 3 ((I t 3) + 1)) (t + 1) (Int32.toNatClampNeg (I t 3)) x1) (t + 2) (Int32.toNatClampNeg (I t 3)) x2) := Fr_uI (Fr_uI (Fr_uI Fr.rf (by omega)) (by omega)) (by omega)
  refine pX9_add_43 ht hts w1 ⟨by omega, hP⟩ hK 8 _ 0 (WX_fr f1 f2 (fun a k h1 h2 => by omega)) f3 ?_ (fun i hi => ?_) ?_ ?_ (fun i j hi hj hne => ?_) (fun j hj => by omega) (by omega) (by omega)
  · rw [f2 t 3 (by omega), uI_ap, if_pos ⟨rfl, rfl⟩]
    omega
  · show _ = (if (i : Int) = w.1 then x1 else w.2.1 i) ∧ _ = (if (i : Int) = w.1 then x2 else w.2.2.1 i)
    by_cases c : (i : Int) = w.1
    · rw [if_pos c, if_pos c]
      exact ⟨by rw [uI_ap, if_neg (by omega), uI_ap, if_pos ⟨rfl, by omega⟩], by rw [uI_ap, if_pos ⟨rfl, by omega⟩]⟩
    · rw [if_neg c, if_neg c]
      have h := w2 i (by omega)
      exact ⟨by rw [uI_ap, if_neg (by omega), uI_ap, if_neg (by omega), uI_ap, if_neg (by omega)]; exact h.1, by rw [uI_ap, if_neg (by omega), uI_ap, if_neg (by omega), uI_ap, if_neg (by omega)]; exact h.2⟩
  · rw [f2 t 4 (by omega), uI_ap, if_neg (by omega)]
    exact w3
  · rw [f2 t 5 (by omega), uI_ap, if_neg (by omega)]
    exact w4
  · rw [f2 (t + 3) _ (by omega), uI_ap, if_neg (by omega)]
    exact w5 i j hi hj hne
theorem pX12_addOne_22 {G : jdG} {n rc rs : Nat} {Z : jdL} {J : jdJ} {K : jdI → jdJ → Prop} {I0 : jdI} {t : Nat} {w : Tw} {x1 x2 : Int32} (ht : zModel Z t) (hP : 0 ≤ w.1 ∧ w.1 < 7) (hK : ∀ I2 : jdI, WM 7 t I2 → Fr (fun a k => (a = t ∧ k = 10) ∨ a = t + 18 ∨ a = t + 19 ∨ (t + 21 ≤ a ∧ a ≤ t + 28)) I0 I2 → RM I2 t (addT w x1 x2) → K I2 J) : ∀ m : Nat, ∀ (I : jdI) (x3 : Int32), WM 7 t I → Fr (fun a k => (a = t ∧ k = 10) ∨ a = t + 18 ∨ a = t + 19 ∨ (t + 21 ≤ a ∧ a ≤ t + 28)) I0 I → (I t 10).toInt = w.1 → (∀ i : Nat, (i : Int) < w.1 + 1 → I (t + 18) i = (addT w x1 x2).2.1 i ∧ I (t + 19) i = (addT w x1 x2).2.2.1 i) → (I t 14).toInt = w.2.2.2.1 → (I t 15).toInt = w.2.2.2.2.1 → (∀ i j : Nat, (i : Int) < w.1 → (j : Int) < w.1 → i ≠ j → I (t + 21 + i) j = w.2.2.2.2.2 i j) → (∀ j : Nat, (j : Int) < x3.toInt → I (t + 21 + w.1.toNat) j = -1 ∧ I (t + 21 + j) w.1.toNat = -1) → 0 ≤ x3.toInt ∧ x3.toInt ≤ w.1 → w.1 - x3.toInt < (m : Int) → Jd G mX12_addOne (jdFm G (qv Z K)) n rc rs 22 [(0, .ref (gb G + t)), (1, .int x1), (2, .int x2), (3, .int x3)] [] Z I J := by
  intro m
  induction m with
  | zero =>
    intro I x3 hW hF a1 a2 a3 a4 a5 a6 hx hm
    omega
  | succ m ih =>
    intro I x3 hW hF a1 a2 a3 a4 a5 a6 hx hm
    have hp := WM_f hW
    have q1 : (1 : Int32).toInt = 1 := rfl
    have e1 := i32_add x3 1 (by omega) (by omega)
    have e2 := i32_add (I t 10) 1 (by omega) (by omega)
    have n3 := tn_eq x3
    have n4 := tn_eq (I t 10)
    refine rX12_addOne_22 ht ⟨fun hc => ?_, fun hc => ?_⟩
    · have hc := Int32.le_iff_toInt_le.mp hc
      have f0 : Fr (fun a k => a = t ∧ k = 10) I (uI I t 10 ((I t 10) + 1)) := Fr_uI Fr.rf ⟨rfl, rfl⟩
      refine hK _ (WM_uI hW (by first | exact okMo (by decide) (by decide) (by decide) (by decide) (by decide) | exact okMf (by decide) (by decide) (by decide) (by decide) (by decide) (by decide) (by decide) (by decide) | exact okM30 (by omega) | exact okM42 (by omega) | exact okM33 (by omega) | exact okM10 (by omega) | exact okM8 (by omega) | exact okM22 (by omega) | exact okM24 (by omega) | exact okM14 (by omega) | exact okMa31 (by omega) | exact okMa35 (by omega) | exact okMa36 (by omega) | exact okMa3 (by omega) | exact okMr (by omega) | (unfold okM; refine ⟨?_, ?_, ?_, ?_, ?_, ?_, ?_, ?_, ?_, ?_, ?_, ?_⟩ <;> intro h <;> omega))) (Fr.tr hF f0 (by intro a k h; omega)) ⟨?_, fun i hi => ?_, ?_, ?_, fun i j hi hj hne => ?_⟩
      · rw [uI_ap, if_pos ⟨rfl, rfl⟩]
        show _ = w.1 + 1
        omega
      · rw [f0 (t + 18) i (by omega), f0 (t + 19) i (by omega)]
        exact a2 i hi
      · rw [f0 t 14 (by omega)]
        exact a3
      · rw [f0 t 15 (by omega)]
        exact a4
      · have hi : (i : Int) < w.1 + 1 := hi
        have hj : (j : Int) < w.1 + 1 := hj
        rw [f0 (t + 21 + i) j (by omega)]
        show _ = if (i : Int) = w.1 ∨ (j : Int) = w.1 then -1 else w.2.2.2.2.2 i j
        by_cases c : (i : Int) = w.1
        · have ei : i = w.1.toNat := by omega
          rw [if_pos (Or.inl c), ei]
          exact (a6 j (by omega)).1
        · by_cases d : (j : Int) = w.1
          · have ej : j = w.1.toNat := by omega
            rw [if_pos (Or.inr d), ej]
            exact (a6 i (by omega)).2
          · rw [if_neg (by omega)]
            exact a5 i j (by omega) (by omega) hne
    · have hc := mt Int32.le_iff_toInt_le.mpr hc
      have e9 : (uI I (t + 21 + (Int32.toNatClampNeg (I t 10))) (Int32.toNatClampNeg x3) (-1)) t 10 = I t 10 := by rw [uI_ap, if_neg (by omega)]
      refine ⟨vp_of (by omega) (by omega), vp_of (by omega) (by omega), vp_of (by omega) (by omega), by rw [e9]; exact vp_of (by omega) (by omega), ?_⟩
      rw [e9]
      have f0 : Fr (fun a k => t + 21 ≤ a ∧ a ≤ t + 28) I (uI (uI I (t + 21 + (Int32.toNatClampNeg (I t 10))) (Int32.toNatClampNeg x3) (-1)) (t + 21 + (Int32.toNatClampNeg x3)) (Int32.toNatClampNeg (I t 10)) (-1)) := Fr_uI (Fr_uI Fr.rf (by omega)) (by omega)
      refine ih _ (x3 + 1) (WM_fr5 hW f0 (by intro k; omega) (by intro k; omega) (by intro k; omega) (by intro k; omega) (by intro k; omega)) (Fr.tr hF f0 (by intro a k h; omega)) (by rw [f0 t 10 (by omega)]; exact a1) (fun i hi => by rw [f0 (t + 18) i (by omega), f0 (t + 19) i (by omega)]; exact a2 i hi) (by rw [f0 t 14 (by omega)]; exact a3) (by rw [f0 t 15 (by omega)]; exact a4) (fun i j hi hj hne => ?_) (fun j hj => ?_) (by omega) (by omega)
      · rw [uI_ap, if_neg (by omega), uI_ap, if_neg (by omega)]
        exact a5 i j hi hj hne
      · by_cases c : (j : Int) < x3.toInt
        · obtain ⟨g1, g2⟩ := a6 j c
          refine ⟨?_, ?_⟩
          · rw [uI_ap, if_neg (by omega), uI_ap, if_neg (by omega)]
            exact g1
          · rw [uI_ap, if_neg (by omega), uI_ap, if_neg (by omega)]
            exact g2
        · refine ⟨?_, ?_⟩
          · rw [uI_ap, if_neg (by omega), uI_ap, if_pos (by omega)]
          · rw [uI_ap, if_pos (by omega)]
theorem pX12_addOne {G : jdG} {n : Nat} {Z : jdL} {J : jdJ} {K : jdI → jdJ → Prop} {I : jdI} {t : Nat} {w : Tw} {x1 x2 : Int32} (ht : zModel Z t) (hW : WM 7 t I) (hw : RM I t w) (hP : w.1 < 7) (hK : ∀ I2 : jdI, WM 7 t I2 → Fr (fun a k => (a = t ∧ k = 10) ∨ a = t + 18 ∨ a = t + 19 ∨ (t + 21 ≤ a ∧ a ≤ t + 28)) I I2 → RM I2 t (addT w x1 x2) → K I2 J) : Cl G mX12_addOne n 0 0 [.ref (gb G + t), .int x1, .int x2] Z I J (qv Z K) := by
  obtain ⟨w1, w2, w3, w4, w5⟩ := hw
  have hp := WM_f hW
  have q0 : (0 : Int32).toInt = 0 := rfl
  have n3 := tn_eq (I t 10)
  refine eX12_addOne ht ⟨vp_of (by omega) (by omega), vp_of (by omega) (by omega), ?_⟩
  have f3 : Fr (fun a k => a = t + 18 ∨ a = t + 19) I (uI (uI I (t + 18) (Int32.toNatClampNeg (I t 10)) x1) (t + 19) (Int32.toNatClampNeg (I t 10)) x2) := Fr_uI (Fr_uI Fr.rf (by omega)) (by omega)
  refine pX12_addOne_22 ht ⟨by omega, hP⟩ hK 8 _ 0 (WM_fr5 hW f3 (by intro k; omega) (by intro k; omega) (by intro k; omega) (by intro k; omega) (by intro k; omega)) (Fr.tr Fr.rf f3 (by intro a k h; omega)) (by rw [f3 t 10 (by omega)]; exact w1) (fun i hi => ?_) (by rw [f3 t 14 (by omega)]; exact w3) (by rw [f3 t 15 (by omega)]; exact w4) (fun i j hi hj hne => by rw [f3 (t + 21 + i) j (by omega)]; exact w5 i j hi hj hne) (fun j hj => by omega) (by omega) (by omega)
  show _ = (if (i : Int) = w.1 then x1 else w.2.1 i) ∧ _ = (if (i : Int) = w.1 then x2 else w.2.2.1 i)
  by_cases c : (i : Int) = w.1
  · rw [if_pos c, if_pos c]
    exact ⟨by rw [uI_ap, if_neg (by omega), uI_ap, if_pos ⟨rfl, by omega⟩], by rw [uI_ap, if_pos ⟨rfl, by omega⟩]⟩
  · rw [if_neg c, if_neg c]
    have h := w2 i (by omega)
    exact ⟨by rw [uI_ap, if_neg (by omega), uI_ap, if_neg (by omega)]; exact h.1, by rw [uI_ap, if_neg (by omega), uI_ap, if_neg (by omega)]; exact h.2⟩
def bt (s : Int32) (i : Nat) : Bool := decide (¬ ((s >>> (Int32.ofNat i &&& 31)) &&& 1) = 0)
theorem bt_iff (s : Int32) {x : Int32} (h : 0 ≤ x.toInt) : bt s x.toInt.toNat = true ↔ ¬ ((s >>> (x &&& 31)) &&& 1) = 0 := by
  unfold bt
  rw [← i32_ofNat h]
  exact decide_eq_true_iff
theorem bt_and (a b : Int32) : ((a &&& b) &&& 1) = 0 ↔ (a &&& 1) = 0 ∨ (b &&& 1) = 0 := by
  have e : (a &&& b) &&& 1 = (a &&& 1) &&& (b &&& 1) := by
    rw [Int32.and_assoc, Int32.and_assoc, ← Int32.and_assoc 1 b 1, Int32.and_comm 1 b, Int32.and_assoc b 1 1, Int32.and_self]
  have ra := i32_and a 1 (by decide)
  have rb := i32_and b 1 (by decide)
  have q1 : (1 : Int32).toInt = 1 := rfl
  have q0 : (0 : Int32).toInt = 0 := rfl
  rw [e]
  refine ⟨fun h => ?_, fun h => ?_⟩
  · by_cases c : (a &&& 1) = 0
    · exact Or.inl c
    · by_cases d : (b &&& 1) = 0
      · exact Or.inr d
      · have ea : (a &&& 1) = 1 := Int32.toInt_inj.mp (by have : ¬ (a &&& 1).toInt = 0 := fun z => c (Int32.toInt_inj.mp (z.trans q0.symm)); omega)
        have eb : (b &&& 1) = 1 := Int32.toInt_inj.mp (by have : ¬ (b &&& 1).toInt = 0 := fun z => d (Int32.toInt_inj.mp (z.trans q0.symm)); omega)
        rw [ea, eb] at h
        exact absurd h (by decide)
  · rcases h with h | h
    · rw [h, Int32.zero_and]
    · rw [h, Int32.and_zero]
def acqT (w : Tw) (s : Int32) : Tw := (w.1, w.2.1, w.2.2.1, w.2.2.2.1, w.2.2.2.2.1, fun i j => if bt s i = true ∧ bt s j = true then 0 else w.2.2.2.2.2 i j)
/-- the pair i, j was looked at ahead of x3, x4 -/
def dn (i j : Nat) (x3 x4 : Int) : Prop := ((i : Int) < x3 ∧ (j : Int) < x3) ∨ ((i : Int) = x3 ∧ (j : Int) < x4) ∨ ((j : Int) = x3 ∧ (i : Int) < x4)
def rowc (k : Nat → Nat → Int32) (s : Int32) (i : Nat) : Nat → Int
  | 0 => 0
  | j + 1 => rowc k s i j + (if bt s i = true ∧ bt s j = true ∧ k i j = -1 then 1 else 0)
def totc (k : Nat → Nat → Int32) (s : Int32) : Nat → Int
  | 0 => 0
  | i + 1 => totc k s i + rowc k s i i
theorem rowc_b (k : Nat → Nat → Int32) (s : Int32) (i : Nat) : ∀ j, 0 ≤ rowc k s i j ∧ rowc k s i j ≤ j
  | 0 => ⟨Int.le_refl _, Int.le_refl _⟩
  | j + 1 => by
    have h := rowc_b k s i j
    show 0 ≤ rowc k s i j + _ ∧ rowc k s i j + _ ≤ _
    split <;> omega
theorem totc_b (k : Nat → Nat → Int32) (s : Int32) : ∀ i, i ≤ 7 → 0 ≤ totc k s i ∧ totc k s i ≤ 7 * i
  | 0, _ => ⟨Int.le_refl _, Int.le_refl _⟩
  | i + 1, hi => by
    have h := totc_b k s i (by omega)
    have g := rowc_b k s i i
    show 0 ≤ totc k s i + _ ∧ totc k s i + _ ≤ _
    omega
theorem pX9_acquaint_l {G : jdG} {n rc rs : Nat} {Z : jdL} {J : jdJ} {K : Int32 → jdI → jdJ → Prop} {I0 : jdI} {t : Nat} {w : Tw} {x1 : Int32} (ht : zTown Z t) (hts : t = 1 ∨ t = 5 ∨ t = 9) (hP : 0 ≤ w.1 ∧ w.1 ≤ 7) (hK : ∀ (v : Int32) (I2 : jdI), WX I2 → Fr (fun a k => a = t + 3) I0 I2 → RX I2 t (acqT w x1) → v.toInt = totc w.2.2.2.2.2 x1 w.1.toNat → K v I2 J) : ∀ m : Nat,
    (∀ (I : jdI) (x2 x3 : Int32), WX I → Fr (fun a k => a = t + 3) I0 I → (∃ w2 : Tw, RX I t w2 ∧ w2.1 = w.1 ∧ w2.2.1 = w.2.1 ∧ w2.2.2.1 = w.2.2.1 ∧ w2.2.2.2.1 = w.2.2.2.1 ∧ w2.2.2.2.2.1 = w.2.2.2.2.1) → (∀ i j : Nat, (i : Int) < w.1 → (j : Int) < w.1 → i ≠ j → ((bt x1 i = true → bt x1 j = true → dn i j x3.toInt 0 → I (t + 3) (i * 7 + j) = 0) ∧ (¬ (bt x1 i = true ∧ bt x1 j = true ∧ dn i j x3.toInt 0) → I (t + 3) (i * 7 + j) = w.2.2.2.2.2 i j))) → x2.toInt = totc w.2.2.2.2.2 x1 x3.toInt.toNat → 0 ≤ x3.toInt ∧ x3.toInt ≤ w.1 → (8 - x3.toInt) * 10 < (m : Int) → Jd G mX9_acquaint (jdFm G (qi Z K)) (n + 1) rc rs 4 [(0, .ref (gb G + t)), (1, .int x1), (2, .int x2), (3, .int x3)] [] Z I J) ∧
    (∀ (I : jdI) (x2 x3 x4 : Int32), WX I → Fr (fun a k => a = t + 3) I0 I → (∃ w2 : Tw, RX I t w2 ∧ w2.1 = w.1 ∧ w2.2.1 = w.2.1 ∧ w2.2.2.1 = w.2.2.1 ∧ w2.2.2.2.1 = w.2.2.2.1 ∧ w2.2.2.2.2.1 = w.2.2.2.2.1) → (∀ i j : Nat, (i : Int) < w.1 → (j : Int) < w.1 → i ≠ j → ((bt x1 i = true → bt x1 j = true → dn i j x3.toInt x4.toInt → I (t + 3) (i * 7 + j) = 0) ∧ (¬ (bt x1 i = true ∧ bt x1 j = true ∧ dn i j x3.toInt x4.toInt) → I (t + 3) (i * 7 + j) = w.2.2.2.2.2 i j))) → x2.toInt = totc w.2.2.2.2.2 x1 x3.toInt.toNat + rowc w.2.2.2.2.2 x1 x3.toInt.toNat x4.toInt.toNat → 0 ≤ x3.toInt ∧ x3.toInt < w.1 → 0 ≤ x4.toInt ∧ x4.toInt ≤ x3.toInt → (8 - x3.toInt) * 10 - 1 - x4.toInt < (m : Int) → Jd G mX9_acquaint (jdFm G (qi Z K)) (n + 1) rc rs 15 [(0, .ref (gb G + t)), (1, .int x1), (2, .int x2), (3, .int x3), (4, .int x4)] [] Z I J) := by
  intro m
  induction m with
  | zero =>
    refine ⟨fun I x2 x3 hW hF b0 b1 b2 h3 hm => ?_, fun I x2 x3 x4 hW hF b0 b1 b2 h3 h4 hm => ?_⟩ <;> omega
  | succ m ih =>
    have q1 : (1 : Int32).toInt = 1 := rfl
    have q0 : (0 : Int32).toInt = 0 := rfl
    refine ⟨fun I x2 x3 hW hF b0 b1 b2 h3 hm => ?_, fun I x2 x3 x4 hW hF b0 b1 b2 h3 h4 hm => ?_⟩
    · obtain ⟨w2, r, e1, e2, e3, e4, e5⟩ := b0
      obtain ⟨r1, r2, r3, r4, r5⟩ := r
      refine rX9_acquaint_4 ht ⟨fun hc => ?_, fun hc => ?_⟩
      · have hc := Int32.le_iff_toInt_le.mp hc
        have ex : x3.toInt = w.1 := by omega
        refine hK x2 I hW hF ⟨by rw [r1, e1]; rfl, fun i hi => ?_, by rw [r3, e4]; rfl, by rw [r4, e5]; rfl, fun i j hi hj hne => ?_⟩ (by rw [b2, ex])
        · have hi : (i : Int) < w.1 := hi
          have h := r2 i (by omega)
          rw [e2, e3] at h
          exact h
        · have hi : (i : Int) < w.1 := hi
          have hj : (j : Int) < w.1 := hj
          obtain ⟨c1, c2⟩ := b1 i j hi hj hne
          show _ = if bt x1 i = true ∧ bt x1 j = true then 0 else w.2.2.2.2.2 i j
          by_cases c : bt x1 i = true ∧ bt x1 j = true
          · rw [if_pos c]
            exact c1 c.1 c.2 (by unfold dn; omega)
          · rw [if_neg c]
            exact c2 (fun q => c ⟨q.1, q.2.1⟩)
      · have hc := mt Int32.le_iff_toInt_le.mpr hc
        refine ih.2 I x2 x3 0 hW hF ⟨w2, ⟨r1, r2, r3, r4, r5⟩, e1, e2, e3, e4, e5⟩ b1 (by rw [b2]; show _ = _ + (0 : Int); omega) (by omega) (by omega) (by omega)
    · have s4 := i32_add x4 1 (by omega) (by omega)
      have s3 := i32_add x3 1 (by omega) (by omega)
      have n3 := tn_eq x3
      have n4 := tn_eq x4
      refine rX9_acquaint_15 ht ⟨fun hc => ?_, fun hc => ?_⟩
      · have hc := Int32.le_iff_toInt_le.mp hc
        refine ih.1 I x2 (x3 + 1) hW hF b0 (fun i j hi hj hne => ?_) ?_ (by omega) (by omega)
        · obtain ⟨c1, c2⟩ := b1 i j hi hj hne
          exact ⟨fun g1 g2 g3 => c1 g1 g2 (by unfold dn at g3 ⊢; omega), fun g => c2 (fun q => g ⟨q.1, q.2.1, by have := q.2.2; unfold dn at this ⊢; omega⟩)⟩
        · rw [b2, show (x3 + 1).toInt.toNat = x3.toInt.toNat + 1 by omega, show x4.toInt.toNat = x3.toInt.toNat by omega]
          rfl
      · have hc := mt Int32.le_iff_toInt_le.mpr hc
        have cb := rowc_b w.2.2.2.2.2 x1 x3.toInt.toNat x4.toInt.toNat
        have ct := totc_b w.2.2.2.2.2 x1 x3.toInt.toNat (by omega)
        have er : rowc w.2.2.2.2.2 x1 x3.toInt.toNat (x4 + 1).toInt.toNat = rowc w.2.2.2.2.2 x1 x3.toInt.toNat x4.toInt.toNat + (if bt x1 x3.toInt.toNat = true ∧ bt x1 x4.toInt.toNat = true ∧ w.2.2.2.2.2 x3.toInt.toNat x4.toInt.toNat = -1 then 1 else 0) := by
          rw [show (x4 + 1).toInt.toNat = x4.toInt.toNat + 1 by omega]
          rfl
        have b3 := bt_iff x1 (x := x3) h3.1
        have b4 := bt_iff x1 (x := x4) h4.1
        have cur := (b1 x3.toInt.toNat x4.toInt.toNat (by omega) (by omega) (by omega)).2 (fun q => by have := q.2.2; unfold dn at this; omega)
        have skip : ¬ (bt x1 x3.toInt.toNat = true ∧ bt x1 x4.toInt.toNat = true) → Jd G mX9_acquaint (jdFm G (qi Z K)) (n + 1) rc rs 15 [(0, .ref (gb G + t)), (1, .int x1), (2, .int x2), (3, .int x3), (4, .int (x4 + 1))] [] Z I J := fun hb => by
          refine ih.2 I x2 x3 (x4 + 1) hW hF b0 (fun i j hi hj hne => ?_) ?_ h3 (by omega) (by omega)
          · obtain ⟨c1, c2⟩ := b1 i j hi hj hne
            refine ⟨fun g1 g2 g3 => c1 g1 g2 ?_, fun g => c2 (fun q => g ⟨q.1, q.2.1, by have := q.2.2; unfold dn at this ⊢; omega⟩)⟩
            unfold dn at g3 ⊢
            by_cases d1 : (i : Int) = x3.toInt ∧ (j : Int) = x4.toInt
            · exact absurd ⟨by rw [show x3.toInt.toNat = i by omega]; exact g1, by rw [show x4.toInt.toNat = j by omega]; exact g2⟩ hb
            · by_cases d2 : (j : Int) = x3.toInt ∧ (i : Int) = x4.toInt
              · exact absurd ⟨by rw [show x3.toInt.toNat = j by omega]; exact g2, by rw [show x4.toInt.toNat = i by omega]; exact g1⟩ hb
              · omega
          · rw [er, if_neg (fun q => hb ⟨q.1, q.2.1⟩), b2]
            omega
        have next : (bt x1 x3.toInt.toNat = true ∧ bt x1 x4.toInt.toNat = true) → ∀ (I3 : jdI) (x5 : Int32), WX I3 → Fr (fun a k => a = t + 3) I I3 → RX I3 t (tieT (w.1, w.2.1, w.2.2.1, w.2.2.2.1, w.2.2.2.2.1, fun i j => I (t + 3) (i * 7 + j)) (Int32.toNatClampNeg x3) (Int32.toNatClampNeg x4) 0) → x5.toInt = totc w.2.2.2.2.2 x1 x3.toInt.toNat + rowc w.2.2.2.2.2 x1 x3.toInt.toNat (x4 + 1).toInt.toNat → Jd G mX9_acquaint (jdFm G (qi Z K)) (n + 1) rc rs 15 [(0, .ref (gb G + t)), (1, .int x1), (2, .int x5), (3, .int x3), (4, .int (x4 + 1))] [] Z I3 J := fun hb I3 x5 hW3 hF3 hR3 hx5 => by
          refine ih.2 I3 x5 x3 (x4 + 1) hW3 (Fr.tr hF hF3 (fun _ _ h => h)) ⟨_, hR3, rfl, rfl, rfl, rfl, rfl⟩ (fun i j hi hj hne => ?_) hx5 h3 (by omega) (by omega)
          obtain ⟨c1, c2⟩ := b1 i j hi hj hne
          have e9 := hR3.2.2.2.2 i j hi hj hne
          have e9 : I3 (t + 3) (i * 7 + j) = if (i = Int32.toNatClampNeg x3 ∧ j = Int32.toNatClampNeg x4) ∨ (i = Int32.toNatClampNeg x4 ∧ j = Int32.toNatClampNeg x3) then 0 else I (t + 3) (i * 7 + j) := e9
          by_cases d : (i = Int32.toNatClampNeg x3 ∧ j = Int32.toNatClampNeg x4) ∨ (i = Int32.toNatClampNeg x4 ∧ j = Int32.toNatClampNeg x3)
          · rw [if_pos d] at e9
            refine ⟨fun _ _ _ => e9, fun g => absurd ?_ g⟩
            rcases d with d | d
            · rw [d.1, d.2]
              exact ⟨hb.1, hb.2, by unfold dn; omega⟩
            · rw [d.1, d.2]
              exact ⟨hb.2, hb.1, by unfold dn; omega⟩
          · rw [if_neg d] at e9
            rw [e9]
            exact ⟨fun g1 g2 g3 => c1 g1 g2 (by unfold dn at g3 ⊢; omega), fun g => c2 (fun q => g ⟨q.1, q.2.1, by have := q.2.2; unfold dn at this ⊢; omega⟩)⟩
        obtain ⟨w2, r, e1, e2, e3, e4, e5⟩ := b0
        have rt : RX I t (w.1, w.2.1, w.2.2.1, w.2.2.2.1, w.2.2.2.2.1, fun i j => I (t + 3) (i * 7 + j)) := ⟨r.1.trans e1, fun i hi => by have h := r.2.1 i (by have : (i : Int) < w.1 := hi; omega); rw [e2, e3] at h; exact h, r.2.2.1.trans e4, r.2.2.2.1.trans e5, fun i j _ _ _ => rfl⟩
        refine ⟨fun hz => skip (fun hb => ?_), fun hz => ?_⟩
        · rcases (bt_and _ _).mp hz with q | q
          · exact b3.mp hb.1 q
          · exact b4.mp hb.2 q
        · have hb : bt x1 x3.toInt.toNat = true ∧ bt x1 x4.toInt.toNat = true := ⟨b3.mpr (fun q => hz ((bt_and _ _).mpr (Or.inl q))), b4.mpr (fun q => hz ((bt_and _ _).mpr (Or.inr q)))⟩
          have m1 := i32_mulc x3 7 7 rfl (by omega) (by omega)
          have a1 := i32_add (x3 * 7) x4 (by omega) (by omega)
          have k1 := tn_eq ((x3 * 7) + x4)
          refine eX9_since ht ⟨vp_of (by omega) (by omega), ?_⟩
          rw [show Int32.toNatClampNeg ((x3 * 7) + x4) = x3.toInt.toNat * 7 + x4.toInt.toNat by omega, cur]
          refine ⟨fun hv => ?_, fun hv => ?_⟩
          · refine pX9_tie ht hts hW rt ⟨h3.1, h3.2⟩ ⟨h4.1, by show _ < w.1; omega⟩ (fun I3 hW3 hF3 hR3 => next hb I3 (x2 + 0) hW3 hF3 hR3 ?_)
            have z := i32_add x2 0 (by omega) (by omega)
            rw [er, if_neg (fun q => hv q.2.2), z, b2]
            omega
          · refine pX9_tie ht hts hW rt ⟨h3.1, h3.2⟩ ⟨h4.1, by show _ < w.1; omega⟩ (fun I3 hW3 hF3 hR3 => next hb I3 (x2 + 1) hW3 hF3 hR3 ?_)
            have z := i32_add x2 1 (by omega) (by omega)
            rw [er, if_pos ⟨hb.1, hb.2, hv⟩, z, b2]
            omega
theorem pX9_acquaint {G : jdG} {n : Nat} {Z : jdL} {J : jdJ} {K : Int32 → jdI → jdJ → Prop} {I : jdI} {t : Nat} {w : Tw} {x1 : Int32} (ht : zTown Z t) (hts : t = 1 ∨ t = 5 ∨ t = 9) (hW : WX I) (hw : RX I t w) (hK : ∀ (v : Int32) (I2 : jdI), WX I2 → Fr (fun a k => a = t + 3) I I2 → RX I2 t (acqT w x1) → v.toInt = totc w.2.2.2.2.2 x1 w.1.toNat → K v I2 J) : Cl G mX9_acquaint (n + 1) 0 0 [.ref (gb G + t), .int x1] Z I J (qi Z K) := by
  have hp := WX_town hW hts
  have h1 := hw.1
  have q0 : (0 : Int32).toInt = 0 := rfl
  refine eX9_acquaint ht ?_
  exact (pX9_acquaint_l ht hts ⟨by omega, by omega⟩ hK 81).1 I 0 0 hW Fr.rf ⟨w, hw, rfl, rfl, rfl, rfl, rfl⟩ (fun i j hi hj hne => ⟨fun _ _ q => by unfold dn at q; omega, fun _ => hw.2.2.2.2 i j hi hj hne⟩) rfl ⟨by decide, by show (0 : Int) ≤ _; omega⟩ (by decide)
theorem pX12_meets_l {G : jdG} {n rc rs : Nat} {Z : jdL} {J : jdJ} {K : Int32 → jdI → jdJ → Prop} {I0 : jdI} {t : Nat} {w : Tw} {x1 : Int32} (ht : zModel Z t) (hP : 0 ≤ w.1 ∧ w.1 ≤ 7) (hK : ∀ (v : Int32) (I2 : jdI), WM 7 t I2 → Fr (fun a k => t + 21 ≤ a ∧ a ≤ t + 28) I0 I2 → RM I2 t (acqT w x1) → v.toInt = totc w.2.2.2.2.2 x1 w.1.toNat → K v I2 J) : ∀ m : Nat,
    (∀ (I : jdI) (x2 x3 : Int32), WM 7 t I → Fr (fun a k => t + 21 ≤ a ∧ a ≤ t + 28) I0 I → (∃ w2 : Tw, RM I t w2 ∧ w2.1 = w.1 ∧ w2.2.1 = w.2.1 ∧ w2.2.2.1 = w.2.2.1 ∧ w2.2.2.2.1 = w.2.2.2.1 ∧ w2.2.2.2.2.1 = w.2.2.2.2.1) → (∀ i j : Nat, (i : Int) < w.1 → (j : Int) < w.1 → i ≠ j → ((bt x1 i = true → bt x1 j = true → dn i j x3.toInt 0 → I (t + 21 + i) j = 0) ∧ (¬ (bt x1 i = true ∧ bt x1 j = true ∧ dn i j x3.toInt 0) → I (t + 21 + i) j = w.2.2.2.2.2 i j))) → x2.toInt = totc w.2.2.2.2.2 x1 x3.toInt.toNat → 0 ≤ x3.toInt ∧ x3.toInt ≤ w.1 → (8 - x3.toInt) * 10 < (m : Int) → Jd G mX12_meets (jdFm G (qi Z K)) (n + 1) rc rs 4 [(0, .ref (gb G + t)), (1, .int x1), (2, .int x2), (3, .int x3)] [] Z I J) ∧
    (∀ (I : jdI) (x2 x3 x4 : Int32), WM 7 t I → Fr (fun a k => t + 21 ≤ a ∧ a ≤ t + 28) I0 I → (∃ w2 : Tw, RM I t w2 ∧ w2.1 = w.1 ∧ w2.2.1 = w.2.1 ∧ w2.2.2.1 = w.2.2.1 ∧ w2.2.2.2.1 = w.2.2.2.1 ∧ w2.2.2.2.2.1 = w.2.2.2.2.1) → (∀ i j : Nat, (i : Int) < w.1 → (j : Int) < w.1 → i ≠ j → ((bt x1 i = true → bt x1 j = true → dn i j x3.toInt x4.toInt → I (t + 21 + i) j = 0) ∧ (¬ (bt x1 i = true ∧ bt x1 j = true ∧ dn i j x3.toInt x4.toInt) → I (t + 21 + i) j = w.2.2.2.2.2 i j))) → x2.toInt = totc w.2.2.2.2.2 x1 x3.toInt.toNat + rowc w.2.2.2.2.2 x1 x3.toInt.toNat x4.toInt.toNat → 0 ≤ x3.toInt ∧ x3.toInt < w.1 → 0 ≤ x4.toInt ∧ x4.toInt ≤ x3.toInt → (8 - x3.toInt) * 10 - 1 - x4.toInt < (m : Int) → Jd G mX12_meets (jdFm G (qi Z K)) (n + 1) rc rs 15 [(0, .ref (gb G + t)), (1, .int x1), (2, .int x2), (3, .int x3), (4, .int x4)] [] Z I J) := by
  intro m
  induction m with
  | zero =>
    refine ⟨fun I x2 x3 hW hF b0 b1 b2 h3 hm => ?_, fun I x2 x3 x4 hW hF b0 b1 b2 h3 h4 hm => ?_⟩ <;> omega
  | succ m ih =>
    have q1 : (1 : Int32).toInt = 1 := rfl
    have q0 : (0 : Int32).toInt = 0 := rfl
    refine ⟨fun I x2 x3 hW hF b0 b1 b2 h3 hm => ?_, fun I x2 x3 x4 hW hF b0 b1 b2 h3 h4 hm => ?_⟩
    · obtain ⟨w2, r, e1, e2, e3, e4, e5⟩ := b0
      obtain ⟨r1, r2, r3, r4, r5⟩ := r
      refine rX12_meets_4 ht ⟨fun hc => ?_, fun hc => ?_⟩
      · have hc := Int32.le_iff_toInt_le.mp hc
        have ex : x3.toInt = w.1 := by omega
        refine hK x2 I hW hF ⟨by rw [r1, e1]; rfl, fun i hi => ?_, by rw [r3, e4]; rfl, by rw [r4, e5]; rfl, fun i j hi hj hne => ?_⟩ (by rw [b2, ex])
        · have hi : (i : Int) < w.1 := hi
          have h := r2 i (by omega)
          rw [e2, e3] at h
          exact h
        · have hi : (i : Int) < w.1 := hi
          have hj : (j : Int) < w.1 := hj
          obtain ⟨c1, c2⟩ := b1 i j hi hj hne
          show _ = if bt x1 i = true ∧ bt x1 j = true then 0 else w.2.2.2.2.2 i j
          by_cases c : bt x1 i = true ∧ bt x1 j = true
          · rw [if_pos c]
            exact c1 c.1 c.2 (by unfold dn; omega)
          · rw [if_neg c]
            exact c2 (fun q => c ⟨q.1, q.2.1⟩)
      · have hc := mt Int32.le_iff_toInt_le.mpr hc
        refine ih.2 I x2 x3 0 hW hF ⟨w2, ⟨r1, r2, r3, r4, r5⟩, e1, e2, e3, e4, e5⟩ b1 (by rw [b2]; show _ = _ + (0 : Int); omega) (by omega) (by omega) (by omega)
    · have s4 := i32_add x4 1 (by omega) (by omega)
      have s3 := i32_add x3 1 (by omega) (by omega)
      have n3 := tn_eq x3
      have n4 := tn_eq x4
      refine rX12_meets_15 ht ⟨fun hc => ?_, fun hc => ?_⟩
      · have hc := Int32.le_iff_toInt_le.mp hc
        refine ih.1 I x2 (x3 + 1) hW hF b0 (fun i j hi hj hne => ?_) ?_ (by omega) (by omega)
        · obtain ⟨c1, c2⟩ := b1 i j hi hj hne
          exact ⟨fun g1 g2 g3 => c1 g1 g2 (by unfold dn at g3 ⊢; omega), fun g => c2 (fun q => g ⟨q.1, q.2.1, by have := q.2.2; unfold dn at this ⊢; omega⟩)⟩
        · rw [b2, show (x3 + 1).toInt.toNat = x3.toInt.toNat + 1 by omega, show x4.toInt.toNat = x3.toInt.toNat by omega]
          rfl
      · have hc := mt Int32.le_iff_toInt_le.mpr hc
        have cb := rowc_b w.2.2.2.2.2 x1 x3.toInt.toNat x4.toInt.toNat
        have ct := totc_b w.2.2.2.2.2 x1 x3.toInt.toNat (by omega)
        have er : rowc w.2.2.2.2.2 x1 x3.toInt.toNat (x4 + 1).toInt.toNat = rowc w.2.2.2.2.2 x1 x3.toInt.toNat x4.toInt.toNat + (if bt x1 x3.toInt.toNat = true ∧ bt x1 x4.toInt.toNat = true ∧ w.2.2.2.2.2 x3.toInt.toNat x4.toInt.toNat = -1 then 1 else 0) := by
          rw [show (x4 + 1).toInt.toNat = x4.toInt.toNat + 1 by omega]
          rfl
        have b3 := bt_iff x1 (x := x3) h3.1
        have b4 := bt_iff x1 (x := x4) h4.1
        have cur := (b1 x3.toInt.toNat x4.toInt.toNat (by omega) (by omega) (by omega)).2 (fun q => by have := q.2.2; unfold dn at this; omega)
        have skip : ¬ (bt x1 x3.toInt.toNat = true ∧ bt x1 x4.toInt.toNat = true) → Jd G mX12_meets (jdFm G (qi Z K)) (n + 1) rc rs 15 [(0, .ref (gb G + t)), (1, .int x1), (2, .int x2), (3, .int x3), (4, .int (x4 + 1))] [] Z I J := fun hb => by
          refine ih.2 I x2 x3 (x4 + 1) hW hF b0 (fun i j hi hj hne => ?_) ?_ h3 (by omega) (by omega)
          · obtain ⟨c1, c2⟩ := b1 i j hi hj hne
            refine ⟨fun g1 g2 g3 => c1 g1 g2 ?_, fun g => c2 (fun q => g ⟨q.1, q.2.1, by have := q.2.2; unfold dn at this ⊢; omega⟩)⟩
            unfold dn at g3 ⊢
            by_cases d1 : (i : Int) = x3.toInt ∧ (j : Int) = x4.toInt
            · exact absurd ⟨by rw [show x3.toInt.toNat = i by omega]; exact g1, by rw [show x4.toInt.toNat = j by omega]; exact g2⟩ hb
            · by_cases d2 : (j : Int) = x3.toInt ∧ (i : Int) = x4.toInt
              · exact absurd ⟨by rw [show x3.toInt.toNat = j by omega]; exact g2, by rw [show x4.toInt.toNat = i by omega]; exact g1⟩ hb
              · omega
          · rw [er, if_neg (fun q => hb ⟨q.1, q.2.1⟩), b2]
            omega
        have next : (bt x1 x3.toInt.toNat = true ∧ bt x1 x4.toInt.toNat = true) → ∀ (I3 : jdI) (x5 : Int32), WM 7 t I3 → Fr (fun a k => t + 21 ≤ a ∧ a ≤ t + 28) I I3 → RM I3 t (tieT (w.1, w.2.1, w.2.2.1, w.2.2.2.1, w.2.2.2.2.1, fun i j => I (t + 21 + i) j) (Int32.toNatClampNeg x3) (Int32.toNatClampNeg x4) 0) → x5.toInt = totc w.2.2.2.2.2 x1 x3.toInt.toNat + rowc w.2.2.2.2.2 x1 x3.toInt.toNat (x4 + 1).toInt.toNat → Jd G mX12_meets (jdFm G (qi Z K)) (n + 1) rc rs 15 [(0, .ref (gb G + t)), (1, .int x1), (2, .int x5), (3, .int x3), (4, .int (x4 + 1))] [] Z I3 J := fun hb I3 x5 hW3 hF3 hR3 hx5 => by
          refine ih.2 I3 x5 x3 (x4 + 1) hW3 (Fr.tr hF hF3 (fun _ _ h => h)) ⟨_, hR3, rfl, rfl, rfl, rfl, rfl⟩ (fun i j hi hj hne => ?_) hx5 h3 (by omega) (by omega)
          obtain ⟨c1, c2⟩ := b1 i j hi hj hne
          have e9 := hR3.2.2.2.2 i j hi hj hne
          have e9 : I3 (t + 21 + i) j = if (i = Int32.toNatClampNeg x3 ∧ j = Int32.toNatClampNeg x4) ∨ (i = Int32.toNatClampNeg x4 ∧ j = Int32.toNatClampNeg x3) then 0 else I (t + 21 + i) j := e9
          by_cases d : (i = Int32.toNatClampNeg x3 ∧ j = Int32.toNatClampNeg x4) ∨ (i = Int32.toNatClampNeg x4 ∧ j = Int32.toNatClampNeg x3)
          · rw [if_pos d] at e9
            refine ⟨fun _ _ _ => e9, fun g => absurd ?_ g⟩
            rcases d with d | d
            · rw [d.1, d.2]
              exact ⟨hb.1, hb.2, by unfold dn; omega⟩
            · rw [d.1, d.2]
              exact ⟨hb.2, hb.1, by unfold dn; omega⟩
          · rw [if_neg d] at e9
            rw [e9]
            exact ⟨fun g1 g2 g3 => c1 g1 g2 (by unfold dn at g3 ⊢; omega), fun g => c2 (fun q => g ⟨q.1, q.2.1, by have := q.2.2; unfold dn at this ⊢; omega⟩)⟩
        obtain ⟨w2, r, e1, e2, e3, e4, e5⟩ := b0
        have rt : RM I t (w.1, w.2.1, w.2.2.1, w.2.2.2.1, w.2.2.2.2.1, fun i j => I (t + 21 + i) j) := ⟨r.1.trans e1, fun i hi => by have h := r.2.1 i (by have : (i : Int) < w.1 := hi; omega); rw [e2, e3] at h; exact h, r.2.2.1.trans e4, r.2.2.2.1.trans e5, fun i j _ _ _ => rfl⟩
        refine sfX12_has trivial (fun v2 p2 => ⟨fun hz => skip (fun hb => ?_), fun hz => ?_⟩)
        · have hz := i0 hz
          exact b3.mp hb.1 (Int32.toInt_inj.mp (show _ = (0 : Int32).toInt by omega))
        · have hz := i1 hz
          refine sfX12_has trivial (fun v4 p4 => ⟨fun hz4 => skip (fun hb => ?_), fun hz4 => ?_⟩)
          · have hz4 := i0 hz4
            exact b4.mp hb.2 (Int32.toInt_inj.mp (show _ = (0 : Int32).toInt by omega))
          · have hz4 := i1 hz4
            have hb : bt x1 x3.toInt.toNat = true ∧ bt x1 x4.toInt.toNat = true := ⟨b3.mpr (fun q => by rw [q] at p2; omega), b4.mpr (fun q => by rw [q] at p4; omega)⟩
            refine ⟨vp_of (by omega) (by omega), vp_of (by omega) (by omega), ?_⟩
            rw [show I (t + 21 + Int32.toNatClampNeg x3) (Int32.toNatClampNeg x4) = w.2.2.2.2.2 x3.toInt.toNat x4.toInt.toNat from cur]
            refine ⟨fun hv => ?_, fun hv => ?_⟩
            · refine pX12_knows ht hW rt ⟨h3.1, h3.2⟩ ⟨h4.1, by show _ < w.1; omega⟩ (fun I3 hW3 hF3 hR3 => next hb I3 (x2 + 0) hW3 hF3 hR3 ?_)
              have z := i32_add x2 0 (by omega) (by omega)
              rw [er, if_neg (fun q => hv q.2.2), z, b2]
              omega
            · refine pX12_knows ht hW rt ⟨h3.1, h3.2⟩ ⟨h4.1, by show _ < w.1; omega⟩ (fun I3 hW3 hF3 hR3 => next hb I3 (x2 + 1) hW3 hF3 hR3 ?_)
              have z := i32_add x2 1 (by omega) (by omega)
              rw [er, if_pos ⟨hb.1, hb.2, hv⟩, z, b2]
              omega
theorem pX12_meets {G : jdG} {n : Nat} {Z : jdL} {J : jdJ} {K : Int32 → jdI → jdJ → Prop} {I : jdI} {t : Nat} {w : Tw} {x1 : Int32} (ht : zModel Z t) (hW : WM 7 t I) (hw : RM I t w) (hK : ∀ (v : Int32) (I2 : jdI), WM 7 t I2 → Fr (fun a k => t + 21 ≤ a ∧ a ≤ t + 28) I I2 → RM I2 t (acqT w x1) → v.toInt = totc w.2.2.2.2.2 x1 w.1.toNat → K v I2 J) : Cl G mX12_meets (n + 1) 0 0 [.ref (gb G + t), .int x1] Z I J (qi Z K) := by
  have hp := WM_f hW
  have h1 := hw.1
  have q0 : (0 : Int32).toInt = 0 := rfl
  refine eX12_meets ht ?_
  exact (pX12_meets_l ht ⟨by omega, by omega⟩ hK 81).1 I 0 0 hW Fr.rf ⟨w, hw, rfl, rfl, rfl, rfl, rfl⟩ (fun i j hi hj hne => ⟨fun _ _ q => by unfold dn at q; omega, fun _ => hw.2.2.2.2 i j hi hj hne⟩) rfl ⟨by decide, by show (0 : Int) ≤ _; omega⟩ (by decide)
/-- what reading a statement into the town at u1 comes to -/
def OX (T : Nat → Int32) (m : Int) (r : Sum Int (Tw × Q3)) (u1 : Nat) (v : Int32) (I2 : jdI) : Prop := (v.toInt = 1 ∧ SX T m I2 ∧ ∃ w2 : Tw, r = .inr (w2, qx I2) ∧ RX I2 u1 w2) ∨ (v.toInt = 0 ∧ r = .inl (I2 25 5).toInt)
theorem RX_fr {I I2 : jdI} {b : Nat} {w : Tw} {p : Nat → Nat → Prop} (h : RX I b w) (hF : Fr p I I2) (hp : ∀ a k, b ≤ a → a ≤ b + 3 → ¬ p a k) : RX I2 b w := by
  obtain ⟨w1, w2, w3, w4, w5⟩ := h
  refine ⟨by rw [hF b 3 (hp _ _ (by omega) (by omega))]; exact w1, fun i hi => ?_, by rw [hF b 4 (hp _ _ (by omega) (by omega))]; exact w3, by rw [hF b 5 (hp _ _ (by omega) (by omega))]; exact w4, fun i j hi hj hne => ?_⟩
  · rw [hF (b + 1) i (hp _ _ (by omega) (by omega)), hF (b + 2) i (hp _ _ (by omega) (by omega))]
    exact w2 i hi
  · rw [hF (b + 3) _ (hp _ _ (by omega) (by omega))]
    exact w5 i j hi hj hne
theorem SX_fr {I I2 : jdI} {T : Nat → Int32} {m : Int} {p : Nat → Nat → Prop} (h : SX T m I) (hF : Fr p I I2) (hp : ∀ a k, a = 25 ∨ a = 25 + 1 → ¬ p a k) : SX T m I2 ∧ qx I2 = qx I ∧ (I2 25 5).toInt = (I 25 5).toInt := by
  have e : ∀ k, I2 25 k = I 25 k := fun k => hF 25 k (hp _ _ (Or.inl rfl))
  have e2 : I2 (25 + 1) = I (25 + 1) := funext (fun k => hF (25 + 1) k (hp _ _ (Or.inr rfl)))
  unfold SX qx
  rw [e2, e, e, e, e, e]
  exact ⟨h, rfl, rfl⟩
def seatT (w : Tw) (x : Int) : Tw := (w.1, w.2.1, w.2.2.1, x, w.2.2.2.2.1, w.2.2.2.2.2)
def memT (w : Tw) (x : Int) : Tw := (w.1, w.2.1, w.2.2.1, w.2.2.2.1, x, w.2.2.2.2.2)
noncomputable def stPerson (T : Nat → Int32) (n : Int) (w : Tw) (q : Q3) : Sum Int (Tw × Q3) := if 7 ≤ w.1 then .inl q.2.1 else match nm T n (adv T n q.2.2) 0 23 (fun _ => true) with
  | .inl p => .inl p
  | .inr h => match nm T n h.2 0 9 (fun _ => true) with
    | .inl p => .inl p
    | .inr c => .inr (addT w (Int32.ofInt h.1) (Int32.ofInt c.1), c.2)
noncomputable def stSeats (T : Nat → Int32) (n : Int) (w : Tw) (q : Q3) : Sum Int (Tw × Q3) := match nm T n (adv T n q.2.2) 2 4 (fun _ => true) with
  | .inl p => .inl p
  | .inr h => .inr (seatT w h.1, h.2)
noncomputable def stMemory (T : Nat → Int32) (n : Int) (w : Tw) (q : Q3) : Sum Int (Tw × Q3) := match nm T n (adv T n q.2.2) 0 99 (fun _ => true) with
  | .inl p => .inl p
  | .inr h => .inr (memT w h.1, h.2)
theorem ofI (v : Int32) : Int32.ofInt v.toInt = v := Int32.ofInt_toInt v
theorem ok_0 (x1 x2 : Int32) : ∀ w : Int32, x1.toInt ≤ w.toInt → w.toInt ≤ x2.toInt → ((fun _ => true) w.toInt = true ↔ (0 : Int32).toInt = 0 ∨ (((0 : Int32) >>> (w &&& 31)) &&& 1).toInt = 0) := fun _ _ _ => ⟨fun _ => Or.inl rfl, fun _ => rfl⟩
theorem nq {v : Int32} (h : ¬ v = (-1)) : ¬ v.toInt = -1 := fun z => h (Int32.toInt_inj.mp (show v.toInt = (-1 : Int32).toInt from z))
theorem pX5_readSeats {G : jdG} {n : Nat} {Z : jdL} {J : jdJ} {K : Int32 → jdI → jdJ → Prop} {I : jdI} {u1 : Nat} {T : Nat → Int32} {m : Int} {w : Tw} (ht : zScribe Z 25) (hu1 : zTown Z u1) (hus : u1 = 1 ∨ u1 = 5 ∨ u1 = 9) (hW : WX I) (hS : SX T m I) (hw : RX I u1 w) (hK : ∀ (v : Int32) (I2 : jdI), WX I2 → Fr (fun a k => a = 25 ∨ (a = u1 ∧ 3 ≤ k ∧ k ≤ 5) ∨ (u1 + 1 ≤ a ∧ a ≤ u1 + 3)) I I2 → (I2 25 1).toInt = m → OX T m (stSeats T m w (qx I)) u1 v I2 → K v I2 J) : Cl G mX5_readSeats (n + 3) 0 0 [.ref (gb G + 25), .ref (gb G + u1)] Z I J (qi Z K) := by
  refine eX5_readSeats ht hu1 ?_
  refine pX5_advance ht hW hS (fun I1 hW1 hF1 hS1 hq1 h51 => ?_)
  refine pX5_readNumber (ok := fun _ => true) ht hW1 hS1 (by decide) (ok_0 2 4) (fun v I3 hW3 hF3 hp hm hT => ?_)
  have hF : Fr (fun a k => a = 25 ∨ (a = u1 ∧ 3 ≤ k ∧ k ≤ 5) ∨ (u1 + 1 ≤ a ∧ a ≤ u1 + 3)) I I3 := Fr.tr (Fr.tr Fr.rf hF1 (by intro a k h; omega)) hF3 (by intro a k h; omega)
  have hR := RX_fr (RX_fr hw hF1 (by intro a k h1 h2; omega)) hF3 (by intro a k h1 h2; omega)
  rw [hq1] at hp
  refine ⟨fun hv => ?_, fun hv => ?_⟩
  · have hv := nq hv
    rcases hp with ⟨p1, p2, p3, p4⟩ | ⟨p1, p2⟩
    · have p3 : 2 ≤ v.toInt := p3
      have p4 : v.toInt ≤ 4 := p4
      have f0 : Fr (fun a k => a = u1 ∧ k = 4) I3 (uI I3 u1 4 v) := Fr_uI Fr.rf ⟨rfl, rfl⟩
      obtain ⟨g1, g2, g3⟩ := SX_fr p2 f0 (by intro a k h; omega)
      refine hK 1 _ (WX_uI hW3 (by first | exact okXo (by decide) | (unfold okX; refine ⟨?_, ?_, ?_, ?_, ?_, ?_, ?_, ?_, ?_, ?_⟩ <;> intro h <;> omega))) (Fr.tr hF f0 (by intro a k h; omega)) g1.2.1 (Or.inl ⟨rfl, g1, seatT w v.toInt, ?_, ?_⟩)
      · unfold stSeats
        rw [show nm T m (adv T m (qx I).2.2) 2 4 (fun _ => true) = .inr (v.toInt, qx I3) from p1, g2]
      · obtain ⟨r1, r2, r3, r4, r5⟩ := hR
        exact ⟨by rw [f0 u1 3 (by omega)]; exact r1, fun i hi => by rw [f0 (u1 + 1) i (by omega), f0 (u1 + 2) i (by omega)]; exact r2 i hi, by rw [uI_ap, if_pos ⟨rfl, rfl⟩]; rfl, by rw [f0 u1 5 (by omega)]; exact r4, fun i j hi hj hne => by rw [f0 (u1 + 3) _ (by omega)]; exact r5 i j hi hj hne⟩
    · exact absurd p2 hv
  · have hv1 : v.toInt = -1 := by rw [hv]; rfl
    rcases hp with ⟨p1, p2, p3, p4⟩ | ⟨p1, p2⟩
    · have p3 : 2 ≤ v.toInt := p3
      omega
    · refine hK 0 I3 hW3 hF hm (Or.inr ⟨rfl, ?_⟩)
      unfold stSeats
      rw [show nm T m (adv T m (qx I).2.2) 2 4 (fun _ => true) = .inl (I3 25 5).toInt from p1]
theorem pX5_readMemory {G : jdG} {n : Nat} {Z : jdL} {J : jdJ} {K : Int32 → jdI → jdJ → Prop} {I : jdI} {u1 : Nat} {T : Nat → Int32} {m : Int} {w : Tw} (ht : zScribe Z 25) (hu1 : zTown Z u1) (hus : u1 = 1 ∨ u1 = 5 ∨ u1 = 9) (hW : WX I) (hS : SX T m I) (hw : RX I u1 w) (hK : ∀ (v : Int32) (I2 : jdI), WX I2 → Fr (fun a k => a = 25 ∨ (a = u1 ∧ 3 ≤ k ∧ k ≤ 5) ∨ (u1 + 1 ≤ a ∧ a ≤ u1 + 3)) I I2 → (I2 25 1).toInt = m → OX T m (stMemory T m w (qx I)) u1 v I2 → K v I2 J) : Cl G mX5_readMemory (n + 3) 0 0 [.ref (gb G + 25), .ref (gb G + u1)] Z I J (qi Z K) := by
  refine eX5_readMemory ht hu1 ?_
  refine pX5_advance ht hW hS (fun I1 hW1 hF1 hS1 hq1 h51 => ?_)
  refine pX5_readNumber (ok := fun _ => true) ht hW1 hS1 (by decide) (ok_0 0 99) (fun v I3 hW3 hF3 hp hm hT => ?_)
  have hF : Fr (fun a k => a = 25 ∨ (a = u1 ∧ 3 ≤ k ∧ k ≤ 5) ∨ (u1 + 1 ≤ a ∧ a ≤ u1 + 3)) I I3 := Fr.tr (Fr.tr Fr.rf hF1 (by intro a k h; omega)) hF3 (by intro a k h; omega)
  have hR := RX_fr (RX_fr hw hF1 (by intro a k h1 h2; omega)) hF3 (by intro a k h1 h2; omega)
  rw [hq1] at hp
  refine ⟨fun hv => ?_, fun hv => ?_⟩
  · have hv := nq hv
    rcases hp with ⟨p1, p2, p3, p4⟩ | ⟨p1, p2⟩
    · have f0 : Fr (fun a k => a = u1 ∧ k = 5) I3 (uI I3 u1 5 v) := Fr_uI Fr.rf ⟨rfl, rfl⟩
      obtain ⟨g1, g2, g3⟩ := SX_fr p2 f0 (by intro a k h; omega)
      refine hK 1 _ (WX_uI hW3 (by first | exact okXo (by decide) | (unfold okX; refine ⟨?_, ?_, ?_, ?_, ?_, ?_, ?_, ?_, ?_, ?_⟩ <;> intro h <;> omega))) (Fr.tr hF f0 (by intro a k h; omega)) g1.2.1 (Or.inl ⟨rfl, g1, memT w v.toInt, ?_, ?_⟩)
      · unfold stMemory
        rw [show nm T m (adv T m (qx I).2.2) 0 99 (fun _ => true) = .inr (v.toInt, qx I3) from p1, g2]
      · obtain ⟨r1, r2, r3, r4, r5⟩ := hR
        exact ⟨by rw [f0 u1 3 (by omega)]; exact r1, fun i hi => by rw [f0 (u1 + 1) i (by omega), f0 (u1 + 2) i (by omega)]; exact r2 i hi, by rw [f0 u1 4 (by omega)]; exact r3, by rw [uI_ap, if_pos ⟨rfl, rfl⟩]; rfl, fun i j hi hj hne => by rw [f0 (u1 + 3) _ (by omega)]; exact r5 i j hi hj hne⟩
    · exact absurd p2 hv
  · have hv1 : v.toInt = -1 := by rw [hv]; rfl
    rcases hp with ⟨p1, p2, p3, p4⟩ | ⟨p1, p2⟩
    · have p3 : 0 ≤ v.toInt := p3
      omega
    · refine hK 0 I3 hW3 hF hm (Or.inr ⟨rfl, ?_⟩)
      unfold stMemory
      rw [show nm T m (adv T m (qx I).2.2) 0 99 (fun _ => true) = .inl (I3 25 5).toInt from p1]
theorem pX5_readPerson {G : jdG} {n : Nat} {Z : jdL} {J : jdJ} {K : Int32 → jdI → jdJ → Prop} {I : jdI} {u1 : Nat} {T : Nat → Int32} {m : Int} {w : Tw} (ht : zScribe Z 25) (hu1 : zTown Z u1) (hus : u1 = 1 ∨ u1 = 5 ∨ u1 = 9) (hW : WX I) (hS : SX T m I) (hw : RX I u1 w) (hK : ∀ (v : Int32) (I2 : jdI), WX I2 → Fr (fun a k => a = 25 ∨ (a = u1 ∧ 3 ≤ k ∧ k ≤ 5) ∨ (u1 + 1 ≤ a ∧ a ≤ u1 + 3)) I I2 → (I2 25 1).toInt = m → OX T m (stPerson T m w (qx I)) u1 v I2 → K v I2 J) : Cl G mX5_readPerson (n + 3) 0 0 [.ref (gb G + 25), .ref (gb G + u1)] Z I J (qi Z K) := by
  have q7 : (7 : Int32).toInt = 7 := rfl
  have hw1 := hw.1
  refine eX5_readPerson ht hu1 ⟨fun hc => ?_, fun hc => ?_⟩
  · have hc := Int32.lt_iff_toInt_lt.mp hc
    have h7 : ¬ 7 ≤ w.1 := by omega
    refine pX5_advance ht hW hS (fun I1 hW1 hF1 hS1 hq1 h51 => ?_)
    refine pX5_readNumber (ok := fun _ => true) ht hW1 hS1 (by decide) (ok_0 0 23) (fun v I3 hW3 hF3 hp hm hT => ?_)
    have hF : Fr (fun a k => a = 25 ∨ (a = u1 ∧ 3 ≤ k ∧ k ≤ 5) ∨ (u1 + 1 ≤ a ∧ a ≤ u1 + 3)) I I3 := Fr.tr (Fr.tr Fr.rf hF1 (by intro a k h; omega)) hF3 (by intro a k h; omega)
    have hR := RX_fr (RX_fr hw hF1 (by intro a k h1 h2; omega)) hF3 (by intro a k h1 h2; omega)
    rw [hq1] at hp
    refine ⟨fun hv => ?_, fun hv => ?_⟩
    · have hv := nq hv
      rcases hp with ⟨p1, p2, p3, p4⟩ | ⟨p1, p2⟩
      · refine pX5_readNumber (ok := fun _ => true) ht hW3 p2 (by decide) (ok_0 0 9) (fun v6 I5 hW5 hF5 hp5 hm5 hT5 => ?_)
        have hF5' : Fr (fun a k => a = 25 ∨ (a = u1 ∧ 3 ≤ k ∧ k ≤ 5) ∨ (u1 + 1 ≤ a ∧ a ≤ u1 + 3)) I I5 := Fr.tr hF hF5 (by intro a k h; omega)
        have hR5 := RX_fr hR hF5 (by intro a k h1 h2; omega)
        have e1 : nm T m (adv T m (qx I).2.2) 0 23 (fun _ => true) = .inr (v.toInt, qx I3) := p1
        refine ⟨fun hv6 => ?_, fun hv6 => ?_⟩
        · have hv6 := nq hv6
          rcases hp5 with ⟨r1, r2, r3, r4⟩ | ⟨r1, r2⟩
          · refine pX9_add hu1 hus hW5 hR5 (by omega) (fun v8 I7 hW7 hF7 hR7 _ => ?_)
            obtain ⟨g1, g2, g3⟩ := SX_fr r2 hF7 (by intro a k h; omega)
            refine hK 1 I7 hW7 (Fr.tr hF5' hF7 (by intro a k h; omega)) g1.2.1 (Or.inl ⟨rfl, g1, _, ?_, hR7⟩)
            unfold stPerson
            rw [if_neg h7, e1]
            show (match nm T m (qx I3) 0 9 (fun _ => true) with | .inl p => Sum.inl p | .inr c => Sum.inr (addT w (Int32.ofInt v.toInt) (Int32.ofInt c.1), c.2)) = _
            rw [show nm T m (qx I3) 0 9 (fun _ => true) = .inr (v6.toInt, qx I5) from r1, g2]
            show Sum.inr (addT w (Int32.ofInt v.toInt) (Int32.ofInt v6.toInt), qx I5) = _
            rw [ofI, ofI]
          · exact absurd r2 hv6
        · have hv6 : v6.toInt = -1 := by rw [hv6]; rfl
          rcases hp5 with ⟨r1, r2, r3, r4⟩ | ⟨r1, r2⟩
          · have r3 : 0 ≤ v6.toInt := r3
            omega
          · refine hK 0 I5 hW5 hF5' hm5 (Or.inr ⟨rfl, ?_⟩)
            unfold stPerson
            rw [if_neg h7, e1]
            show (match nm T m (qx I3) 0 9 (fun _ => true) with | .inl p => Sum.inl p | .inr c => Sum.inr (addT w (Int32.ofInt v.toInt) (Int32.ofInt c.1), c.2)) = _
            rw [show nm T m (qx I3) 0 9 (fun _ => true) = .inl (I5 25 5).toInt from r1]
      · exact absurd p2 hv
    · have hv1 : v.toInt = -1 := by rw [hv]; rfl
      rcases hp with ⟨p1, p2, p3, p4⟩ | ⟨p1, p2⟩
      · have p3 : 0 ≤ v.toInt := p3
        omega
      · refine hK 0 I3 hW3 hF hm (Or.inr ⟨rfl, ?_⟩)
        unfold stPerson
        rw [if_neg h7, show nm T m (adv T m (qx I).2.2) 0 23 (fun _ => true) = .inl (I3 25 5).toInt from p1]
  · have hc := mt Int32.lt_iff_toInt_lt.mpr hc
    refine fsfX5_fail ht hW (fun v I9 hW9 hF9 hp => ⟨narrow_b (Or.inl hp.1), ?_⟩)
    refine hK v I9 hW9 (Fr.tr Fr.rf hF9 (by intro a k h; omega)) (by rw [hp.2.2]; exact hS.2.1) (Or.inr ⟨hp.1, ?_⟩)
    unfold stPerson
    rw [if_pos (by omega), hp.2.1]
    rfl
theorem one_all : ∀ a : Fin 7, ∀ b : Fin 7, ¬ ((1 : Int32) <<< (Int32.ofNat a.val &&& 31)).toInt = 0 ∧ ((((((1 : Int32) <<< (Int32.ofNat a.val &&& 31)) >>> (Int32.ofNat b.val &&& 31)) &&& 1).toInt = 0) ↔ ¬ b.val = a.val) := by decide +kernel
theorem one_bit {a b : Int32} (h0 : 0 ≤ a.toInt ∧ a.toInt ≤ 6) (h1 : 0 ≤ b.toInt ∧ b.toInt ≤ 6) : ¬ ((1 : Int32) <<< (a &&& 31)).toInt = 0 ∧ (((((1 : Int32) <<< (a &&& 31)) >>> (b &&& 31)) &&& 1).toInt = 0 ↔ ¬ b.toInt = a.toInt) := by
  have e := one_all ⟨a.toInt.toNat, by omega⟩ ⟨b.toInt.toNat, by omega⟩
  rw [← i32_ofNat h0.1, ← i32_ofNat h1.1] at e
  refine ⟨e.1, e.2.trans ?_⟩
  show ¬ b.toInt.toNat = a.toInt.toNat ↔ _
  omega
noncomputable def stSince (T : Nat → Int32) (n : Int) (w : Tw) (a b : Int) (q : Q3) : Sum Int (Tw × Q3) := match nm T n (adv T n q.2.2) 0 99 (fun _ => true) with
  | .inl p => .inl p
  | .inr d => .inr (tieT w a.toNat b.toNat (Int32.ofInt d.1), d.2)
/-- two people, and perhaps since when they know each other -/
noncomputable def stPair (T : Nat → Int32) (n : Int) (w : Tw) (q : Q3) (kn : Bool) : Sum Int (Tw × Q3) := match nm T n (adv T n q.2.2) 0 (w.1 - 1) (fun _ => true) with
  | .inl p => .inl p
  | .inr a => match nm T n a.2 0 (w.1 - 1) (fun x => decide (¬ x = a.1)) with
    | .inl p => .inl p
    | .inr b => @ite _ (kn = true ∧ WD T b.2.1 b.2.2.1 b.2.2.2 2) (Classical.propDecidable _) (stSince T n w a.1 b.1 b.2) (.inr (tieT w a.1.toNat b.1.toNat (if kn = true then 0 else -1), b.2))
theorem pX5_readPair {G : jdG} {n : Nat} {Z : jdL} {J : jdJ} {K : Int32 → jdI → jdJ → Prop} {I : jdI} {u1 : Nat} {T : Nat → Int32} {m : Int} {w : Tw} {sA sV : Nat → Nat} {x2 : Int32} (hG : gOK G sA sV) (ht : zScribe Z 25) (hu1 : zTown Z u1) (hus : u1 = 1 ∨ u1 = 5 ∨ u1 = 9) (hW : WX I) (hS : SX T m I) (hw : RX I u1 w) (kn : Bool) (hx2 : x2 = 0 ∧ kn = false ∨ ¬ x2 = 0 ∧ kn = true) (hK : ∀ (v : Int32) (I2 : jdI), WX I2 → Fr (fun a k => a = 25 ∨ (a = u1 ∧ 3 ≤ k ∧ k ≤ 5) ∨ (u1 + 1 ≤ a ∧ a ≤ u1 + 3)) I I2 → (I2 25 1).toInt = m → OX T m (stPair T m w (qx I) kn) u1 v I2 → K v I2 J) : Cl G mX5_readPair (n + 5) 0 0 [.ref (gb G + 25), .ref (gb G + u1), .int x2] Z I J (qi Z K) := by
  have hp0 := WX_town hW hus
  have hw1 := hw.1
  have q1 : (1 : Int32).toInt = 1 := rfl
  refine eX5_readPair hG ht hu1 ?_
  refine pX5_advance ht hW hS (fun I1 hW1 hF1 hS1 hq1 h51 => ?_)
  have hR1 := RX_fr hw hF1 (by intro a k h1 h2; omega)
  have p1' := hR1.1
  have s1 := i32_sub (I1 u1 3) 1 (by omega) (by omega)
  have e1 : ((I1 u1 3) - 1).toInt = w.1 - 1 := by omega
  refine pX5_readNumber (ok := fun _ => true) ht hW1 hS1 ⟨by decide, by omega⟩ (ok_0 0 _) (fun v4 I3 hW3 hF3 hp hm hT => ?_)
  have hF : Fr (fun a k => a = 25 ∨ (a = u1 ∧ 3 ≤ k ∧ k ≤ 5) ∨ (u1 + 1 ≤ a ∧ a ≤ u1 + 3)) I I3 := Fr.tr (Fr.tr Fr.rf hF1 (by intro a k h; omega)) hF3 (by intro a k h; omega)
  have hR := RX_fr hR1 hF3 (by intro a k h1 h2; omega)
  rw [hq1, e1] at hp
  refine ⟨fun hv => ?_, fun hv => ?_⟩
  · have hv := nq hv
    rcases hp with ⟨a1, a2, a3, a4⟩ | ⟨a1, a2⟩
    · have ga0 : 0 ≤ v4.toInt := a3
      have ga1 : v4.toInt < w.1 := by omega
      have eA : nm T m (adv T m (qx I).2.2) 0 (w.1 - 1) (fun _ => true) = .inr (v4.toInt, qx I3) := a1
      have p3' := hR.1
      have s3 := i32_sub (I3 u1 3) 1 (by omega) (by omega)
      have e3 : ((I3 u1 3) - 1).toInt = w.1 - 1 := by omega
      refine pX5_readNumber (ok := fun x => decide (¬ x = v4.toInt)) ht hW3 a2 ⟨by decide, by omega⟩ (fun z z0 z1 => ?_) (fun v6 I5 hW5 hF5 hp5 hm5 hT5 => ?_)
      · have z0 : 0 ≤ z.toInt := z0
        have ob := one_bit (a := v4) (b := z) ⟨by omega, by omega⟩ ⟨by omega, by omega⟩
        rw [decide_eq_true_iff]
        exact ⟨fun h => Or.inr (ob.2.mpr h), fun h => h.elim (fun g => absurd g ob.1) ob.2.mp⟩
      · have hF5' : Fr (fun a k => a = 25 ∨ (a = u1 ∧ 3 ≤ k ∧ k ≤ 5) ∨ (u1 + 1 ≤ a ∧ a ≤ u1 + 3)) I I5 := Fr.tr hF hF5 (by intro a k h; omega)
        have hR5 := RX_fr hR hF5 (by intro a k h1 h2; omega)
        rw [e3] at hp5
        refine ⟨fun hv6 => ?_, fun hv6 => ?_⟩
        · have hv6 := nq hv6
          rcases hp5 with ⟨b1, b2, b3, b4⟩ | ⟨b1, b2⟩
          · have gb0 : 0 ≤ v6.toInt := b3
            have gb1 : v6.toInt < w.1 := by omega
            have eB : nm T m (qx I3) 0 (w.1 - 1) (fun x => decide (¬ x = v4.toInt)) = .inr (v6.toInt, qx I5) := b1
            have eP : ∀ kn : Bool, stPair T m w (qx I) kn = @ite _ (kn = true ∧ WD T (qx I5).1 (qx I5).2.1 (qx I5).2.2 2) (Classical.propDecidable _) (stSince T m w v4.toInt v6.toInt (qx I5)) (.inr (tieT w v4.toInt.toNat v6.toInt.toNat (if kn = true then 0 else -1), qx I5)) := fun kn => by
              unfold stPair
              rw [eA]
              show (match nm T m (qx I3) 0 (w.1 - 1) (fun x => decide (¬ x = v4.toInt)) with | .inl p => Sum.inl p | .inr b => @ite _ (kn = true ∧ WD T b.2.1 b.2.2.1 b.2.2.2 2) (Classical.propDecidable _) (stSince T m w v4.toInt b.1 b.2) (.inr (tieT w v4.toInt.toNat b.1.toNat (if kn = true then 0 else -1), b.2))) = _
              rw [eB]
            rcases hx2 with ⟨hz, rfl⟩ | ⟨hz, rfl⟩
            · refine ⟨fun _ => ⟨fun _ => ?_, fun hn => absurd hz hn⟩, fun hn => absurd hz hn⟩
              have eN : stPair T m w (qx I) false = .inr (tieT w v4.toInt.toNat v6.toInt.toNat (-1), qx I5) := by
                rw [eP, if_neg (fun q => by cases q.1)]
                rfl
              refine pX9_tie hu1 hus hW5 hR5 ⟨ga0, ga1⟩ ⟨gb0, gb1⟩ (fun Ic hWc hFc hRc => ?_)
              obtain ⟨g1, g2, g3⟩ := SX_fr b2 hFc (by intro a k h; omega)
              refine hK 1 Ic hWc (Fr.tr hF5' hFc (by intro a k h; omega)) g1.2.1 (Or.inl ⟨rfl, g1, _, ?_, hRc⟩)
              rw [eN, g2]
              rfl
            · refine ⟨fun hn => absurd hn hz, fun _ => ⟨fun hn => absurd hn hz, fun _ => ?_⟩⟩
              refine fsfX5_isWord hG ht (by decide) hW5 (by rw [b2.1, b2.2.1]; exact b2.2.2) (fun v22 hwd => ⟨fun h0 => ?_, fun h0 => ?_⟩)
              · have h0 := i0 h0
                have nw : ¬ WD T (qx I5).1 (qx I5).2.1 (qx I5).2.2 2 := by
                  rw [b2.1] at hwd
                  rcases hwd with hwd | hwd
                  · omega
                  · exact hwd.2
                have eN : stPair T m w (qx I) true = .inr (tieT w v4.toInt.toNat v6.toInt.toNat 0, qx I5) := by
                  rw [eP, if_neg (fun q => nw q.2)]
                  rfl
                refine pX9_tie hu1 hus hW5 hR5 ⟨ga0, ga1⟩ ⟨gb0, gb1⟩ (fun Ic hWc hFc hRc => ?_)
                obtain ⟨g1, g2, g3⟩ := SX_fr b2 hFc (by intro a k h; omega)
                refine hK 1 Ic hWc (Fr.tr hF5' hFc (by intro a k h; omega)) g1.2.1 (Or.inl ⟨rfl, g1, _, ?_, hRc⟩)
                rw [eN, g2]
                rfl
              · have h0 := i1 h0
                have yw : WD T (qx I5).1 (qx I5).2.1 (qx I5).2.2 2 := by
                  rw [b2.1] at hwd
                  rcases hwd with hwd | hwd
                  · exact hwd.2
                  · omega
                have eS : stPair T m w (qx I) true = stSince T m w v4.toInt v6.toInt (qx I5) := by
                  rw [eP, if_pos ⟨rfl, yw⟩]
                refine pX5_advance ht hW5 b2 (fun Ia hWa hFa hSa hqa h5a => ?_)
                refine pX5_readNumber (ok := fun _ => true) ht hWa hSa (by decide) (ok_0 0 99) (fun vb Ib hWb hFb hpb hmb hTb => ?_)
                have hFb' : Fr (fun a k => a = 25 ∨ (a = u1 ∧ 3 ≤ k ∧ k ≤ 5) ∨ (u1 + 1 ≤ a ∧ a ≤ u1 + 3)) I Ib := Fr.tr (Fr.tr hF5' hFa (by intro a k h; omega)) hFb (by intro a k h; omega)
                have hRb := RX_fr (RX_fr hR5 hFa (by intro a k h1 h2; omega)) hFb (by intro a k h1 h2; omega)
                rw [hqa] at hpb
                refine ⟨fun hv => ?_, fun hv => ?_⟩
                · have hv := nq hv
                  rcases hpb with ⟨d1, d2, d3, d4⟩ | ⟨d1, d2⟩
                  · refine pX9_tie hu1 hus hWb hRb ⟨ga0, ga1⟩ ⟨gb0, gb1⟩ (fun Ic hWc hFc hRc => ?_)
                    obtain ⟨g1, g2, g3⟩ := SX_fr d2 hFc (by intro a k h; omega)
                    refine hK 1 Ic hWc (Fr.tr hFb' hFc (by intro a k h; omega)) g1.2.1 (Or.inl ⟨rfl, g1, _, ?_, hRc⟩)
                    rw [eS]
                    unfold stSince
                    rw [show nm T m (adv T m (qx I5).2.2) 0 99 (fun _ => true) = .inr (vb.toInt, qx Ib) from d1, g2]
                    show Sum.inr (tieT w v4.toInt.toNat v6.toInt.toNat (Int32.ofInt vb.toInt), qx Ib) = _
                    rw [ofI]
                    rfl
                  · exact absurd d2 hv
                · have hv1 : vb.toInt = -1 := by rw [hv]; rfl
                  rcases hpb with ⟨d1, d2, d3, d4⟩ | ⟨d1, d2⟩
                  · have d3 : 0 ≤ vb.toInt := d3
                    omega
                  · refine hK 0 Ib hWb hFb' hmb (Or.inr ⟨rfl, ?_⟩)
                    rw [eS]
                    unfold stSince
                    rw [show nm T m (adv T m (qx I5).2.2) 0 99 (fun _ => true) = .inl (Ib 25 5).toInt from d1]
          · exact absurd b2 hv6
        · have hv6 : v6.toInt = -1 := by rw [hv6]; rfl
          rcases hp5 with ⟨b1, b2, b3, b4⟩ | ⟨b1, b2⟩
          · have b3 : 0 ≤ v6.toInt := b3
            omega
          · refine hK 0 I5 hW5 hF5' hm5 (Or.inr ⟨rfl, ?_⟩)
            unfold stPair
            rw [eA]
            show (match nm T m (qx I3) 0 (w.1 - 1) (fun x => decide (¬ x = v4.toInt)) with | .inl p => Sum.inl p | .inr b => @ite _ (kn = true ∧ WD T b.2.1 b.2.2.1 b.2.2.2 2) (Classical.propDecidable _) (stSince T m w v4.toInt b.1 b.2) (.inr (tieT w v4.toInt.toNat b.1.toNat (if kn = true then 0 else -1), b.2))) = _
            rw [show nm T m (qx I3) 0 (w.1 - 1) (fun x => decide (¬ x = v4.toInt)) = .inl (I5 25 5).toInt from b1]
    · exact absurd a2 hv
  · have hv1 : v4.toInt = -1 := by rw [hv]; rfl
    rcases hp with ⟨a1, a2, a3, a4⟩ | ⟨a1, a2⟩
    · have a3 : 0 ≤ v4.toInt := a3
      omega
    · refine hK 0 I3 hW3 hF hm (Or.inr ⟨rfl, ?_⟩)
      unfold stPair
      rw [show nm T m (adv T m (qx I).2.2) 0 (w.1 - 1) (fun _ => true) = .inl (I3 25 5).toInt from a1]
/-! met, statements, texts -/
def fr7 (s : Int32) : Nat := (if bt s 0 then 0 else 1) + (if bt s 1 then 0 else 1) + (if bt s 2 then 0 else 1) + (if bt s 3 then 0 else 1) + (if bt s 4 then 0 else 1) + (if bt s 5 then 0 else 1) + (if bt s 6 then 0 else 1)
theorem fr_all : ∀ s : Fin 128, ∀ a : Fin 7, (bt (Int32.ofNat s.val) a.val = false → fr7 (Int32.ofNat s.val ||| ((1 : Int32) <<< (Int32.ofNat a.val &&& 31))) + 1 = fr7 (Int32.ofNat s.val)) ∧ 0 ≤ (Int32.ofNat s.val ||| ((1 : Int32) <<< (Int32.ofNat a.val &&& 31))).toInt ∧ (Int32.ofNat s.val ||| ((1 : Int32) <<< (Int32.ofNat a.val &&& 31))).toInt ≤ 127 := by decide +kernel
theorem fr_or {s a : Int32} (hs : 0 ≤ s.toInt ∧ s.toInt ≤ 127) (ha : 0 ≤ a.toInt ∧ a.toInt ≤ 6) : (bt s a.toInt.toNat = false → fr7 (s ||| ((1 : Int32) <<< (a &&& 31))) + 1 = fr7 s) ∧ 0 ≤ (s ||| ((1 : Int32) <<< (a &&& 31))).toInt ∧ (s ||| ((1 : Int32) <<< (a &&& 31))).toInt ≤ 127 := by
  have e := fr_all ⟨s.toInt.toNat, by omega⟩ ⟨a.toInt.toNat, by omega⟩
  rw [← i32_ofNat hs.1, ← i32_ofNat ha.1] at e
  exact e
theorem one_fr : ∀ a : Fin 7, fr7 ((1 : Int32) <<< (Int32.ofNat a.val &&& 31)) = 6 ∧ 0 ≤ ((1 : Int32) <<< (Int32.ofNat a.val &&& 31)).toInt ∧ ((1 : Int32) <<< (Int32.ofNat a.val &&& 31)).toInt ≤ 127 := by decide +kernel
theorem fr_1 {a : Int32} (ha : 0 ≤ a.toInt ∧ a.toInt ≤ 6) : fr7 ((1 : Int32) <<< (a &&& 31)) = 6 ∧ 0 ≤ ((1 : Int32) <<< (a &&& 31)).toInt ∧ ((1 : Int32) <<< (a &&& 31)).toInt ≤ 127 := by
  have e := one_fr ⟨a.toInt.toNat, by omega⟩
  rw [← i32_ofNat ha.1] at e
  exact e
theorem bt_z : ∀ a : Fin 7, bt 0 a.val = false := by decide +kernel
theorem zero_or_i (x : Int32) : (0 : Int32) ||| x = x := Int32.zero_or
/-- numbers of people, each but once -/
noncomputable def metR (T : Nat → Int32) (n p : Int) : Nat → Int32 → Q3 → Sum Int (Int32 × Q3)
  | 0, s, q => .inr (s, q)
  | f + 1, s, q => if q.1 = 2 then (match nm T n q 0 (p - 1) (fun x => !(bt s x.toNat)) with
    | .inl e => .inl e
    | .inr a => metR T n p f (s ||| ((1 : Int32) <<< (Int32.ofInt a.1 &&& 31))) a.2) else .inr (s, q)
def fin (w : Tw) (r : Sum Int (Int32 × Q3)) : Sum Int (Tw × Q3) := match r with
  | .inl p => .inl p
  | .inr b => .inr (acqT w b.1, b.2)
noncomputable def stMet (T : Nat → Int32) (n : Int) (w : Tw) (q : Q3) : Sum Int (Tw × Q3) := match nm T n (adv T n q.2.2) 0 (w.1 - 1) (fun _ => true) with
  | .inl p => .inl p
  | .inr a => fin w (metR T n w.1 7 ((1 : Int32) <<< (Int32.ofInt a.1 &&& 31)) a.2)
theorem metR_n {T : Nat → Int32} {n p : Int} {f : Nat} {s : Int32} {q : Q3} (h : ¬ q.1 = 2) : metR T n p (f + 1) s q = .inr (s, q) := if_neg h
theorem metR_y {T : Nat → Int32} {n p : Int} {f : Nat} {s v : Int32} {q q2 : Q3} (h : q.1 = 2) (e : nm T n q 0 (p - 1) (fun x => !(bt s x.toNat)) = .inr (v.toInt, q2)) : metR T n p (f + 1) s q = metR T n p f (s ||| ((1 : Int32) <<< (v &&& 31))) q2 := by
  show (if q.1 = 2 then (match nm T n q 0 (p - 1) (fun x => !(bt s x.toNat)) with
    | .inl e => (Sum.inl e : Sum Int (Int32 × Q3))
    | .inr a => metR T n p f (s ||| ((1 : Int32) <<< (Int32.ofInt a.1 &&& 31))) a.2) else .inr (s, q)) = _
  rw [if_pos h, e]
  show metR T n p f (s ||| ((1 : Int32) <<< (Int32.ofInt v.toInt &&& 31))) q2 = _
  rw [ofI]
theorem metR_e {T : Nat → Int32} {n p e2 : Int} {f : Nat} {s : Int32} {q : Q3} (h : q.1 = 2) (e : nm T n q 0 (p - 1) (fun x => !(bt s x.toNat)) = .inl e2) : metR T n p (f + 1) s q = .inl e2 := by
  show (if q.1 = 2 then (match nm T n q 0 (p - 1) (fun x => !(bt s x.toNat)) with
    | .inl e => (Sum.inl e : Sum Int (Int32 × Q3))
    | .inr a => metR T n p f (s ||| ((1 : Int32) <<< (Int32.ofInt a.1 &&& 31))) a.2) else .inr (s, q)) = _
  rw [if_pos h, e]
theorem nm_ok {T : Nat → Int32} {n : Int} {q : Q3} {lo hi : Int} {ok ok2 : Int → Bool} (h : q.1 = 2 → lo ≤ vl T q.2.1 q.2.2 → vl T q.2.1 q.2.2 ≤ hi → ok (vl T q.2.1 q.2.2) = ok2 (vl T q.2.1 q.2.2)) : nm T n q lo hi ok = nm T n q lo hi ok2 := by
  unfold nm
  by_cases c : q.1 = 2 ∧ lo ≤ vl T q.2.1 q.2.2 ∧ vl T q.2.1 q.2.2 ≤ hi
  · rw [h c.1 c.2.1 c.2.2]
  · rw [if_neg (fun z => c ⟨z.1, z.2.1, z.2.2.1⟩), if_neg (fun z => c ⟨z.1, z.2.1, z.2.2.1⟩)]
theorem nm_fst {T : Nat → Int32} {n : Int} {q : Q3} {lo hi g : Int} {q2 : Q3} {ok : Int → Bool} (h : nm T n q lo hi ok = .inr (g, q2)) : ok g = true := by
  unfold nm at h
  by_cases c : q.1 = 2 ∧ lo ≤ vl T q.2.1 q.2.2 ∧ vl T q.2.1 q.2.2 ≤ hi ∧ ok (vl T q.2.1 q.2.2) = true
  · rw [if_pos c] at h
    injection h with h
    injection h with h1 h2
    rw [← h1]
    exact c.2.2.2
  · rw [if_neg c] at h
    cases h
theorem ok_bt {s x2 : Int32} (hx : x2.toInt ≤ 6) : ∀ z : Int32, (0 : Int32).toInt ≤ z.toInt → z.toInt ≤ x2.toInt → ((fun x : Int => !(bt s x.toNat)) z.toInt = true ↔ s.toInt = 0 ∨ ((s >>> (z &&& 31)) &&& 1).toInt = 0) := fun z z0 z1 => by
  have z0 : 0 ≤ z.toInt := z0
  have b := bt_iff s z0
  have q0 : (0 : Int32).toInt = 0 := rfl
  show (!(bt s z.toInt.toNat)) = true ↔ _
  rw [Bool.not_eq_true']
  refine ⟨fun h => Or.inr ?_, fun h => ?_⟩
  · by_cases c : ((s >>> (z &&& 31)) &&& 1) = 0
    · rw [c]
      rfl
    · rw [b.mpr c] at h
      cases h
  · cases e : bt s z.toInt.toNat with
    | false => rfl
    | true =>
      have g := b.mp e
      rcases h with h | h
      · have : s = 0 := Int32.toInt_inj.mp (h.trans q0.symm)
        rw [this, bt_z ⟨z.toInt.toNat, by omega⟩] at e
        cases e
      · exact absurd (Int32.toInt_inj.mp (h.trans q0.symm)) g

theorem pX5_readMet_8 {G : jdG} {n rc rs : Nat} {Z : jdL} {J : jdJ} {K : Int32 → jdI → jdJ → Prop} {I0 : jdI} {u1 : Nat} {T : Nat → Int32} {m : Int} {w : Tw} {R : Sum Int (Tw × Q3)} (ht : zScribe Z 25) (hu1 : zTown Z u1) (hus : u1 = 1 ∨ u1 = 5 ∨ u1 = 9) (hK : ∀ (v : Int32) (I2 : jdI), WX I2 → Fr (fun a k => a = 25 ∨ (a = u1 ∧ 3 ≤ k ∧ k ≤ 5) ∨ (u1 + 1 ≤ a ∧ a ≤ u1 + 3)) I0 I2 → (I2 25 1).toInt = m → OX T m R u1 v I2 → K v I2 J) : ∀ f : Nat, ∀ (I : jdI) (x2 x3 : Int32), WX I → Fr (fun a k => a = 25 ∨ (a = u1 ∧ 3 ≤ k ∧ k ≤ 5) ∨ (u1 + 1 ≤ a ∧ a ≤ u1 + 3)) I0 I → SX T m I → RX I u1 w → x3.toInt = 8 - (f : Int) → 1 ≤ x3.toInt → fr7 x2 < f → 0 ≤ x2.toInt ∧ x2.toInt ≤ 127 → fin w (metR T m w.1 f x2 (qx I)) = R → Jd G mX5_readMet (jdFm G (qi Z K)) (n + 3) rc rs 8 [(0, .ref (gb G + 25)), (1, .ref (gb G + u1)), (2, .int x2), (3, .int x3)] [] Z I J := by
  intro f
  induction f with
  | zero =>
    intro I x2 x3 hW hF hS hR h3 h3b hf hx hr
    omega
  | succ f ih =>
    intro I x2 x3 hW hF hS hR h3 h3b hf hx hr
    have hp0 := WX_town hW hus
    have hw1 := hR.1
    have q0 : (0 : Int32).toInt = 0 := rfl
    have q7 : (7 : Int32).toInt = 7 := rfl
    have q1 : (1 : Int32).toInt = 1 := rfl
    have q2 : (2 : Int32).toInt = 2 := rfl
    refine rX5_readMet_8 ht hu1 ⟨fun hc => by have := Int32.lt_iff_toInt_lt.mp hc; omega, fun _ => ⟨fun hc => by rw [hc] at h3b; omega, fun _ => ⟨fun hc => ?_, fun hc => ?_⟩⟩⟩
    · have hn : ¬ (qx I).1 = 2 := fun z => hc (Int32.toInt_inj.mp (show (I 25 2).toInt = _ from z))
      rw [metR_n hn] at hr
      refine pX9_acquaint hu1 hus hW hR (fun v2 I1 hW1 hF1 hR1 _ => ?_)
      obtain ⟨g1, g2, g3⟩ := SX_fr hS hF1 (by intro a k h; omega)
      refine hK 1 I1 hW1 (Fr.tr hF hF1 (by intro a k h; omega)) g1.2.1 (Or.inl ⟨rfl, g1, _, ?_, hR1⟩)
      rw [← hr, g2]
      rfl
    · have hn : (qx I).1 = 2 := by
        show (I 25 2).toInt = 2
        rw [hc]
        rfl
      have s1 := i32_sub (I u1 3) 1 (by omega) (by omega)
      have e1 : ((I u1 3) - 1).toInt = w.1 - 1 := by omega
      refine pX5_readNumber (ok := fun x => !(bt x2 x.toNat)) ht hW hS ⟨by decide, by omega⟩ (ok_bt (by omega)) (fun v I3 hW3 hF3 hp hm hT => ?_)
      have hF' : Fr (fun a k => a = 25 ∨ (a = u1 ∧ 3 ≤ k ∧ k ≤ 5) ∨ (u1 + 1 ≤ a ∧ a ≤ u1 + 3)) I0 I3 := Fr.tr hF hF3 (by intro a k h; omega)
      have hR3 := RX_fr hR hF3 (by intro a k h1 h2; omega)
      rw [e1] at hp
      refine ⟨fun hv => ?_, fun hv => ?_⟩
      · have hv := nq hv
        rcases hp with ⟨p1, p2, p3, p4⟩ | ⟨p1, p2⟩
        · have p3 : 0 ≤ v.toInt := p3
          have hb : bt x2 v.toInt.toNat = false := by
            have := nm_fst p1
            rw [Bool.not_eq_true'] at this
            exact this
          obtain ⟨b1, b2, b3⟩ := fr_or hx ⟨p3, show v.toInt ≤ 6 by omega⟩
          have b1 := b1 hb
          have s3 := i32_add x3 1 (by omega) (by omega)
          refine ih I3 _ (x3 + 1) hW3 hF' p2 hR3 (by omega) (by omega) (by omega) ⟨b2, b3⟩ ?_
          rw [← hr, metR_y hn p1]
        · exact absurd p2 hv
      · have hv1 : v.toInt = -1 := by rw [hv]; rfl
        rcases hp with ⟨p1, p2, p3, p4⟩ | ⟨p1, p2⟩
        · have p3 : 0 ≤ v.toInt := p3
          omega
        · refine hK 0 I3 hW3 hF' hm (Or.inr ⟨rfl, ?_⟩)
          rw [← hr, metR_e hn p1]
          rfl
theorem pX5_readMet {G : jdG} {n : Nat} {Z : jdL} {J : jdJ} {K : Int32 → jdI → jdJ → Prop} {I : jdI} {u1 : Nat} {T : Nat → Int32} {m : Int} {w : Tw} (ht : zScribe Z 25) (hu1 : zTown Z u1) (hus : u1 = 1 ∨ u1 = 5 ∨ u1 = 9) (hW : WX I) (hS : SX T m I) (hw : RX I u1 w) (hK : ∀ (v : Int32) (I2 : jdI), WX I2 → Fr (fun a k => a = 25 ∨ (a = u1 ∧ 3 ≤ k ∧ k ≤ 5) ∨ (u1 + 1 ≤ a ∧ a ≤ u1 + 3)) I I2 → (I2 25 1).toInt = m → OX T m (stMet T m w (qx I)) u1 v I2 → K v I2 J) : Cl G mX5_readMet (n + 3) 0 0 [.ref (gb G + 25), .ref (gb G + u1)] Z I J (qi Z K) := by
  have q0 : (0 : Int32).toInt = 0 := rfl
  have q7 : (7 : Int32).toInt = 7 := rfl
  have q1 : (1 : Int32).toInt = 1 := rfl
  refine eX5_readMet ht hu1 ?_
  refine pX5_advance ht hW hS (fun I1 hW1 hF1 hS1 hq1 h51 => ?_)
  have hp0 := WX_town hW1 hus
  have hR1 := RX_fr hw hF1 (by intro a k h1 h2; omega)
  have p1' := hR1.1
  have s1 := i32_sub (I1 u1 3) 1 (by omega) (by omega)
  have e1 : ((I1 u1 3) - 1).toInt = w.1 - 1 := by omega
  refine rX5_readMet_8 ht hu1 ⟨fun hc => absurd hc (by decide), fun _ => ⟨fun _ => ?_, fun hc => absurd rfl hc⟩⟩
  refine pX5_readNumber (ok := fun _ => true) ht hW1 hS1 ⟨by decide, by omega⟩ (ok_0 0 _) (fun v I3 hW3 hF3 hp hm hT => ?_)
  have hF : Fr (fun a k => a = 25 ∨ (a = u1 ∧ 3 ≤ k ∧ k ≤ 5) ∨ (u1 + 1 ≤ a ∧ a ≤ u1 + 3)) I I3 := Fr.tr (Fr.tr Fr.rf hF1 (by intro a k h; omega)) hF3 (by intro a k h; omega)
  have hR := RX_fr hR1 hF3 (by intro a k h1 h2; omega)
  rw [hq1, e1] at hp
  refine ⟨fun hv => ?_, fun hv => ?_⟩
  · have hv := nq hv
    rcases hp with ⟨p1, p2, p3, p4⟩ | ⟨p1, p2⟩
    · have p3 : 0 ≤ v.toInt := p3
      obtain ⟨b1, b2, b3⟩ := fr_1 (a := v) ⟨p3, by omega⟩
      rw [zero_or_i]
      refine pX5_readMet_8 ht hu1 hus hK 7 I3 _ (0 + 1) hW3 hF p2 hR (by decide) (by decide) (by omega) ⟨b2, b3⟩ ?_
      unfold stMet
      rw [show nm T m (adv T m (qx I).2.2) 0 (w.1 - 1) (fun _ => true) = .inr (v.toInt, qx I3) from p1]
      show _ = fin w (metR T m w.1 7 ((1 : Int32) <<< (Int32.ofInt v.toInt &&& 31)) (qx I3))
      rw [ofI]
    · exact absurd p2 hv
  · have hv1 : v.toInt = -1 := by rw [hv]; rfl
    rcases hp with ⟨p1, p2, p3, p4⟩ | ⟨p1, p2⟩
    · have p3 : 0 ≤ v.toInt := p3
      omega
    · refine hK 0 I3 hW3 hF hm (Or.inr ⟨rfl, ?_⟩)
      unfold stMet
      rw [show nm T m (adv T m (qx I).2.2) 0 (w.1 - 1) (fun _ => true) = .inl (I3 25 5).toInt from p1]
def OM (T : Nat → Int32) (m : Int) (r : Sum Int (Tw × Q3)) (t : Nat) (v : Int32) (I2 : jdI) : Prop := (v.toInt = 1 ∧ SM T m I2 t ∧ ∃ w2 : Tw, r = .inr (w2, qmo I2 t) ∧ RM I2 t w2) ∨ (v.toInt = 0 ∧ r = .inl (I2 t 26).toInt)
theorem RM_fr {I I2 : jdI} {t : Nat} {w : Tw} {p : Nat → Nat → Prop} (h : RM I t w) (hP : w.1 ≤ 8) (hF : Fr p I I2) (h1 : ¬ p t 10) (h2 : ¬ p t 14) (h3 : ¬ p t 15) (hp : ∀ a k, t + 18 ≤ a → a ≤ t + 28 → ¬ a = t + 20 → ¬ p a k) : RM I2 t w := by
  obtain ⟨w1, w2, w3, w4, w5⟩ := h
  refine ⟨by rw [hF t 10 h1]; exact w1, fun i hi => ?_, by rw [hF t 14 h2]; exact w3, by rw [hF t 15 h3]; exact w4, fun i j hi hj hne => ?_⟩
  · rw [hF (t + 18) i (hp _ _ (by omega) (by omega) (by omega)), hF (t + 19) i (hp _ _ (by omega) (by omega) (by omega))]
    exact w2 i hi
  · rw [hF (t + 21 + i) _ (hp _ _ (by omega) (by omega) (by omega))]
    exact w5 i j hi hj hne
theorem SM_fr {I I2 : jdI} {T : Nat → Int32} {m : Int} {t : Nat} {p : Nat → Nat → Prop} (h : SM T m I t) (hF : Fr p I I2) (h8 : ¬ p t 8) (hk : ∀ k, 22 ≤ k → k ≤ 25 → ¬ p t k) (h16 : ∀ k, ¬ p (t + 16) k) : SM T m I2 t ∧ qmo I2 t = qmo I t := by
  have e2 : I2 (t + 16) = I (t + 16) := funext (fun k => hF (t + 16) k (h16 k))
  unfold SM qmo
  rw [e2, hF t 8 h8, hF t 22 (hk _ (by omega) (by omega)), hF t 23 (hk _ (by omega) (by omega)), hF t 24 (hk _ (by omega) (by omega)), hF t 25 (hk _ (by omega) (by omega))]
  exact ⟨h, rfl⟩
/-- two different people -/
noncomputable def two (T : Nat → Int32) (n p : Int) (q : Q3) : Sum Int (Int × Int × Q3) := match nm T n (adv T n q.2.2) 0 (p - 1) (fun _ => true) with
  | .inl e => .inl e
  | .inr a => match nm T n a.2 0 (p - 1) (fun x => decide (¬ x = a.1)) with
    | .inl e => .inl e
    | .inr b => .inr (a.1, b.1, b.2)
theorem two_e {T : Nat → Int32} {n p e : Int} {q : Q3} (h : nm T n (adv T n q.2.2) 0 (p - 1) (fun _ => true) = .inl e) : two T n p q = .inl e := by
  unfold two
  rw [h]
theorem two_f {T : Nat → Int32} {n p e a : Int} {q q2 : Q3} (h : nm T n (adv T n q.2.2) 0 (p - 1) (fun _ => true) = .inr (a, q2)) (g : nm T n q2 0 (p - 1) (fun x => decide (¬ x = a)) = .inl e) : two T n p q = .inl e := by
  unfold two
  rw [h]
  show (match nm T n q2 0 (p - 1) (fun x => decide (¬ x = a)) with | .inl e => Sum.inl e | .inr b => Sum.inr (a, b.1, b.2)) = _
  rw [g]
theorem two_y {T : Nat → Int32} {n p a b : Int} {q q2 q3 : Q3} (h : nm T n (adv T n q.2.2) 0 (p - 1) (fun _ => true) = .inr (a, q2)) (g : nm T n q2 0 (p - 1) (fun x => decide (¬ x = a)) = .inr (b, q3)) : two T n p q = .inr (a, b, q3) := by
  unfold two
  rw [h]
  show (match nm T n q2 0 (p - 1) (fun x => decide (¬ x = a)) with | .inl e => Sum.inl e | .inr b => Sum.inr (a, b.1, b.2)) = _
  rw [g]
theorem stPair_two (T : Nat → Int32) (n : Int) (w : Tw) (q : Q3) (kn : Bool) : stPair T n w q kn = match two T n w.1 q with
    | .inl p => .inl p
    | .inr c => @ite _ (kn = true ∧ WD T c.2.2.1 c.2.2.2.1 c.2.2.2.2 2) (Classical.propDecidable _) (stSince T n w c.1 c.2.1 c.2.2) (.inr (tieT w c.1.toNat c.2.1.toNat (if kn = true then 0 else -1), c.2.2)) := by
  unfold stPair two
  cases nm T n (adv T n q.2.2) 0 (w.1 - 1) (fun _ => true) with
  | inl e => rfl
  | inr a =>
    dsimp only
    cases nm T n a.2 0 (w.1 - 1) (fun x => decide (¬ x = a.1)) with
    | inl e => rfl
    | inr b => rfl
theorem pX12_twoTold {G : jdG} {n : Nat} {Z : jdL} {J : jdJ} {K : Int32 → jdI → jdJ → Prop} {I : jdI} {t : Nat} {T : Nat → Int32} {m : Int} {w : Tw} (ht : zModel Z t) (hW : WM 7 t I) (hS : SM T m I t) (hw : RM I t w) (hK : ∀ (v : Int32) (I2 : jdI), WM 7 t I2 → Fr (fun a k => (a = t ∧ 22 ≤ k ∧ k ≤ 26) ∨ a = t + 29) I I2 → ((v.toInt = 1 ∧ SM T m I2 t ∧ two T m w.1 (qmo I t) = .inr ((I2 (t + 29) 0).toInt, (I2 (t + 29) 1).toInt, qmo I2 t) ∧ (0 ≤ (I2 (t + 29) 0).toInt ∧ (I2 (t + 29) 0).toInt < w.1) ∧ (0 ≤ (I2 (t + 29) 1).toInt ∧ (I2 (t + 29) 1).toInt < w.1)) ∨ (v.toInt = 0 ∧ two T m w.1 (qmo I t) = .inl (I2 t 26).toInt)) → K v I2 J) : Cl G mX12_twoTold (n + 4) 0 0 [.ref (gb G + t)] Z I J (qi Z K) := by
  have hp := WM_f hW
  have hw1 := hw.1
  have q1 : (1 : Int32).toInt = 1 := rfl
  have q0 : (0 : Int32).toInt = 0 := rfl
  have q2 : (2 : Int32).toInt = 2 := rfl
  have s1 := i32_sub (I t 10) 1 (by omega) (by omega)
  have e1 : ((I t 10) - 1).toInt = w.1 - 1 := by omega
  refine eX12_twoTold ht ?_
  refine pX12_tells ht hW hS.1 hS.2.1 (tkp_f hS.2.2.1).1 ⟨by decide, by omega⟩ (fun v I1 hW1 hF1 hp1 => ⟨fun hv => ?_, fun hv => ?_⟩)
  · have hv := i1 hv
    rw [e1] at hp1
    rcases hp1 with ⟨p1, p2, p3, p4, p5, p6⟩ | ⟨p1, p2⟩
    · have hR1 := RM_fr hw (by omega) hF1 (by omega) (by omega) (by omega) (by intro a k h1 h2 h3; omega)
      have r1 := hR1.1
      have s3 := i32_sub (I1 t 10) 1 (by omega) (by omega)
      have e3 : ((I1 t 10) - 1).toInt = w.1 - 1 := by omega
      have eA : nm T m (adv T m (qmo I t).2.2) 0 (w.1 - 1) (fun _ => true) = .inr ((I1 (t + 29) 0).toInt, qmo I1 t) := p3
      have p4 : 0 ≤ (I1 (t + 29) 0).toInt := p4
      have num : (¬ ((I1 t 23).toInt = 2 ∧ (I1 t 25).toInt = (I1 (t + 29) 0).toInt)) → Cl G mX12_number (n + 3) 0 0 [.ref (gb G + t), .int 1, .int 0, .int ((I1 t 10) - 1)] Z I1 J (qi Z (fun v4 I3 J3 => (narrow .boolean (.int v4) = .int v4 ∧ K v4 I3 J3))) := fun hne => by
        refine pX12_number ht hW1 p2 (Or.inr rfl) ⟨by decide, by omega⟩ (fun v4 I3 hW3 hF3 hp3 => ?_)
        have hF' : Fr (fun a k => (a = t ∧ 22 ≤ k ∧ k ≤ 26) ∨ a = t + 29) I I3 := Fr.tr hF1 hF3 (by intro a k h; omega)
        have eq : nm T m (qmo I1 t) 0 (w.1 - 1) (fun x => decide (¬ x = (I1 (t + 29) 0).toInt)) = nm T m (qmo I1 t) 0 (w.1 - 1) (fun _ => true) := nm_ok (fun c1 _ _ => decide_eq_true (fun z => hne ⟨c1, (p2.2.2.2 c1).trans z⟩))
        rw [e3] at hp3
        rcases hp3 with ⟨r1, r2, g, r3, r4, r5, r6, _, r7⟩ | ⟨r1, r2⟩
        · have r4 : 0 ≤ g := r4
          obtain ⟨t1, t2⟩ := r7 rfl
          refine ⟨narrow_b (Or.inr r1), hK v4 I3 hW3 hF' (Or.inl ⟨r1, r2, ?_, by omega, by omega⟩)⟩
          rw [two_y eA (eq.trans r3), t1, t2]
        · exact ⟨narrow_b (Or.inl r1), hK v4 I3 hW3 hF' (Or.inr ⟨r1, two_f eA (eq.trans r2)⟩)⟩
      refine ⟨fun hc => num (fun z => hc (Int32.toInt_inj.mp (z.1.trans q2.symm))), fun hc => ⟨fun hd => num (fun z => hd (Int32.toInt_inj.mp z.2)), fun hd => ?_⟩⟩
      refine fsfX12_wrong ht hW1 (fun v8 I7 hW7 hF7 hp7 => ⟨narrow_b (Or.inl hp7.1), hK v8 I7 hW7 (Fr.tr hF1 hF7 (by intro a k h; omega)) (Or.inr ⟨hp7.1, two_f eA ?_⟩)⟩)
      refine nm_n (Or.inr (fun z => ?_)) hp7.2
      have z := of_decide_eq_true z
      refine z ((p2.2.2.2 (by rw [hc]; rfl)).symm.trans (by rw [hd]))
    · omega
  · have hv := i0 hv
    rw [e1] at hp1
    rcases hp1 with ⟨p1, p2, p3, p4, p5, p6⟩ | ⟨p1, p2⟩
    · omega
    · exact hK 0 I1 hW1 hF1 (Or.inr ⟨rfl, two_e p2⟩)
theorem pX12_knowTold {G : jdG} {n : Nat} {Z : jdL} {J : jdJ} {K : Int32 → jdI → jdJ → Prop} {I : jdI} {t : Nat} {T : Nat → Int32} {m : Int} {w : Tw} {sA sV : Nat → Nat} (hG : gOK G sA sV) (ht : zModel Z t) (hW : WM 7 t I) (hS : SM T m I t) (hw : RM I t w) (hK : ∀ (v : Int32) (I2 : jdI), WM 7 t I2 → Fr (fun a k => (a = t ∧ (k = 10 ∨ k = 14 ∨ k = 15 ∨ (22 ≤ k ∧ k ≤ 26))) ∨ a = t + 18 ∨ a = t + 19 ∨ (t + 21 ≤ a ∧ a ≤ t + 29)) I I2 → OM T m (stPair T m w (qmo I t) true) t v I2 → K v I2 J) : Cl G mX12_knowTold (n + 5) 0 0 [.ref (gb G + t)] Z I J (qi Z K) := by
  have hp := WM_f hW
  have hw1 := hw.1
  refine eX12_knowTold hG ht ?_
  refine pX12_twoTold ht hW hS hw (fun v I1 hW1 hF1 hp1 => ⟨fun hv => ?_, fun hv => ?_⟩)
  · have hv := i1 hv
    rcases hp1 with ⟨p1, p2, p3, p4, p5⟩ | ⟨p1, p2⟩
    · have hR1 := RM_fr hw (by omega) hF1 (by omega) (by omega) (by omega) (by intro a k h1 h2 h3; omega)
      have hF : Fr (fun a k => (a = t ∧ (k = 10 ∨ k = 14 ∨ k = 15 ∨ (22 ≤ k ∧ k ≤ 26))) ∨ a = t + 18 ∨ a = t + 19 ∨ (t + 21 ≤ a ∧ a ≤ t + 29)) I I1 := Fr.tr Fr.rf hF1 (by intro a k h; omega)
      refine fsfX12_isWord hG ht (by decide) hW1 (by rw [p2.1, p2.2.1]; exact p2.2.2.1) (fun v4 hwd => ⟨fun h0 => ?_, fun h0 => ?_⟩)
      · have h0 := i0 h0
        have nw : ¬ WD T (qmo I1 t).1 (qmo I1 t).2.1 (qmo I1 t).2.2 2 := by
          rw [p2.1] at hwd
          rcases hwd with hwd | hwd
          · omega
          · exact hwd.2
        have eN : stPair T m w (qmo I t) true = .inr (tieT w (I1 (t + 29) 0).toInt.toNat (I1 (t + 29) 1).toInt.toNat 0, qmo I1 t) := by
          rw [stPair_two, p3]
          show @ite _ (true = true ∧ WD T (qmo I1 t).1 (qmo I1 t).2.1 (qmo I1 t).2.2 2) (Classical.propDecidable _) _ _ = _
          rw [if_neg (fun q => nw q.2)]
          rfl
        refine pX12_knows ht hW1 hR1 p4 p5 (fun I5 hW5 hF5 hR5 => ?_)
        obtain ⟨g1, g2⟩ := SM_fr p2 hF5 (by omega) (by intro k h1 h2; omega) (by intro k; omega)
        refine hK 1 I5 hW5 (Fr.tr hF hF5 (by intro a k h; omega)) (Or.inl ⟨rfl, g1, _, ?_, hR5⟩)
        rw [eN, g2]
        rfl
      · have h0 := i1 h0
        have yw : WD T (qmo I1 t).1 (qmo I1 t).2.1 (qmo I1 t).2.2 2 := by
          rw [p2.1] at hwd
          rcases hwd with hwd | hwd
          · exact hwd.2
          · omega
        have eS : stPair T m w (qmo I t) true = stSince T m w (I1 (t + 29) 0).toInt (I1 (t + 29) 1).toInt (qmo I1 t) := by
          rw [stPair_two, p3]
          show @ite _ (true = true ∧ WD T (qmo I1 t).1 (qmo I1 t).2.1 (qmo I1 t).2.2 2) (Classical.propDecidable _) _ _ = _
          rw [if_pos ⟨rfl, yw⟩]
        refine pX12_tells ht hW1 p2.1 p2.2.1 (tkp_f p2.2.2.1).1 (by decide) (fun v8 I7 hW7 hF7 hp7 => ⟨fun hv => ?_, fun hv => ?_⟩)
        · have hv := i1 hv
          rcases hp7 with ⟨r1, r2, r3, r4, r5, r6⟩ | ⟨r1, r2⟩
          · have hR7 := RM_fr hR1 (by omega) hF7 (by omega) (by omega) (by omega) (by intro a k h1 h2 h3; omega)
            have hF7' : Fr (fun a k => (a = t ∧ (k = 10 ∨ k = 14 ∨ k = 15 ∨ (22 ≤ k ∧ k ≤ 26))) ∨ a = t + 18 ∨ a = t + 19 ∨ (t + 21 ≤ a ∧ a ≤ t + 29)) I I7 := Fr.tr hF hF7 (by intro a k h; omega)
            refine pX12_knows ht hW7 hR7 p4 p5 (fun I9 hW9 hF9 hR9 => ?_)
            obtain ⟨g1, g2⟩ := SM_fr r2 hF9 (by omega) (by intro k h1 h2; omega) (by intro k; omega)
            refine hK 1 I9 hW9 (Fr.tr hF7' hF9 (by intro a k h; omega)) (Or.inl ⟨rfl, g1, _, ?_, hR9⟩)
            rw [eS]
            unfold stSince
            rw [show nm T m (adv T m (qmo I1 t).2.2) 0 99 (fun _ => true) = .inr ((I7 (t + 29) 0).toInt, qmo I7 t) from r3, g2]
            show Sum.inr (tieT w (I1 (t + 29) 0).toInt.toNat (I1 (t + 29) 1).toInt.toNat (Int32.ofInt (I7 (t + 29) 0).toInt), qmo I7 t) = _
            rw [ofI]
            rfl
          · omega
        · have hv := i0 hv
          rcases hp7 with ⟨r1, r2, r3, r4, r5, r6⟩ | ⟨r1, r2⟩
          · omega
          · refine hK 0 I7 hW7 (Fr.tr hF hF7 (by intro a k h; omega)) (Or.inr ⟨rfl, ?_⟩)
            rw [eS]
            unfold stSince
            rw [show nm T m (adv T m (qmo I1 t).2.2) 0 99 (fun _ => true) = .inl (I7 t 26).toInt from r2]
    · omega
  · have hv := i0 hv
    rcases hp1 with ⟨p1, p2, p3, p4, p5⟩ | ⟨p1, p2⟩
    · omega
    · refine hK 0 I1 hW1 (Fr.tr Fr.rf hF1 (by intro a k h; omega)) (Or.inr ⟨rfl, ?_⟩)
      rw [stPair_two, p2]
theorem pX12_metTold_25 {G : jdG} {n rc rs : Nat} {Z : jdL} {J : jdJ} {K : Int32 → jdI → jdJ → Prop} {I0 : jdI} {t : Nat} {T : Nat → Int32} {m : Int} {w : Tw} {R : Sum Int (Tw × Q3)} (ht : zModel Z t) (hK : ∀ (v : Int32) (I2 : jdI), WM 7 t I2 → Fr (fun a k => (a = t ∧ (k = 10 ∨ k = 14 ∨ k = 15 ∨ (22 ≤ k ∧ k ≤ 26))) ∨ a = t + 18 ∨ a = t + 19 ∨ (t + 21 ≤ a ∧ a ≤ t + 29)) I0 I2 → OM T m R t v I2 → K v I2 J) : ∀ f : Nat, ∀ (I : jdI) (x1 : Int32), WM 7 t I → Fr (fun a k => (a = t ∧ (k = 10 ∨ k = 14 ∨ k = 15 ∨ (22 ≤ k ∧ k ≤ 26))) ∨ a = t + 18 ∨ a = t + 19 ∨ (t + 21 ≤ a ∧ a ≤ t + 29)) I0 I → SM T m I t → RM I t w → fr7 x1 < f → 0 ≤ x1.toInt ∧ x1.toInt ≤ 127 → fin w (metR T m w.1 f x1 (qmo I t)) = R → Jd G mX12_metTold (jdFm G (qi Z K)) (n + 4) rc rs 25 [(0, .ref (gb G + t)), (1, .int x1)] [] Z I J := by
  intro f
  induction f with
  | zero =>
    intro I x1 hW hF hS hR hf hx hr
    omega
  | succ f ih =>
    intro I x1 hW hF hS hR hf hx hr
    have hp := WM_f hW
    have hw1 := hR.1
    have q0 : (0 : Int32).toInt = 0 := rfl
    have q1 : (1 : Int32).toInt = 1 := rfl
    have q2 : (2 : Int32).toInt = 2 := rfl
    have s1 := i32_sub (I t 10) 1 (by omega) (by omega)
    have e1 : ((I t 10) - 1).toInt = w.1 - 1 := by omega
    refine rX12_metTold_25 ht ⟨fun hc => ?_, fun hc => ?_⟩
    · have hn : ¬ (qmo I t).1 = 2 := fun z => hc (Int32.toInt_inj.mp (show (I t 23).toInt = _ from z))
      rw [metR_n hn] at hr
      refine pX12_meets ht hW hR (fun v2 I1 hW1 hF1 hR1 _ => ?_)
      obtain ⟨g1, g2⟩ := SM_fr hS hF1 (by omega) (by intro k h1 h2; omega) (by intro k; omega)
      refine hK 1 I1 hW1 (Fr.tr hF hF1 (by intro a k h; omega)) (Or.inl ⟨rfl, g1, _, ?_, hR1⟩)
      rw [← hr, g2]
      rfl
    · have hn : (qmo I t).1 = 2 := by
        show (I t 23).toInt = 2
        rw [hc]
        rfl
      have hfg : (I t 25).toInt = vl T (qmo I t).2.1 (qmo I t).2.2 := hS.2.2.2 hn
      have num : (0 ≤ vl T (qmo I t).2.1 (qmo I t).2.2 → vl T (qmo I t).2.1 (qmo I t).2.2 ≤ w.1 - 1 → (!(bt x1 (vl T (qmo I t).2.1 (qmo I t).2.2).toNat)) = true) → Cl G mX12_number (n + 3) 0 0 [.ref (gb G + t), .int 0, .int 0, .int ((I t 10) - 1)] Z I J (qi Z (fun v4 I3 J3 => ((¬ v4 = 0 → Jd G mX12_metTold (jdFm G (qi Z K)) (n + 4) rc rs 25 [(0, .ref (gb G + t)), (1, .int (x1 ||| (1 <<< ((I3 (t + 29) 0) &&& 31))))] [] Z I3 J3) ∧ (v4 = 0 → K 0 I3 J3)))) := fun hne => by
        have eq : nm T m (qmo I t) 0 (w.1 - 1) (fun x => !(bt x1 x.toNat)) = nm T m (qmo I t) 0 (w.1 - 1) (fun _ => true) := nm_ok (fun _ c2 c3 => hne c2 c3)
        refine pX12_number ht hW hS (Or.inl rfl) ⟨by decide, by omega⟩ (fun v I3 hW3 hF3 hp3 => ?_)
        have hF' : Fr (fun a k => (a = t ∧ (k = 10 ∨ k = 14 ∨ k = 15 ∨ (22 ≤ k ∧ k ≤ 26))) ∨ a = t + 18 ∨ a = t + 19 ∨ (t + 21 ≤ a ∧ a ≤ t + 29)) I0 I3 := Fr.tr hF hF3 (by intro a k h; omega)
        have hR3 := RM_fr hR (by omega) hF3 (by omega) (by omega) (by omega) (by intro a k h1 h2 h3; omega)
        rw [e1] at hp3
        rcases hp3 with ⟨p1, p2, g, p3, p4, p5, p6, p7, _⟩ | ⟨p1, p2⟩
        · have p4 : 0 ≤ g := p4
          obtain ⟨t1, t2⟩ := p7 rfl
          rw [← t1] at p3
          refine ⟨fun _ => ?_, fun hv => by have := i0 hv; omega⟩
          have p3 : nm T m (qmo I t) 0 (w.1 - 1) (fun x => !(bt x1 x.toNat)) = .inr ((I3 (t + 29) 0).toInt, qmo I3 t) := eq.trans p3
          have hb : bt x1 (I3 (t + 29) 0).toInt.toNat = false := by
            have := nm_fst p3
            rw [Bool.not_eq_true'] at this
            exact this
          obtain ⟨b1, b2, b3⟩ := fr_or hx ⟨show 0 ≤ (I3 (t + 29) 0).toInt by omega, show (I3 (t + 29) 0).toInt ≤ 6 by omega⟩
          have b1 := b1 hb
          refine ih I3 _ hW3 hF' p2 hR3 (by omega) ⟨b2, b3⟩ ?_
          rw [← hr, metR_y hn p3]
        · refine ⟨fun hv => by have := i1 hv; omega, fun _ => hK 0 I3 hW3 hF' (Or.inr ⟨rfl, ?_⟩)⟩
          rw [← hr, metR_e hn (eq.trans p2)]
          rfl
      refine ⟨fun hd => ?_, fun hd => ?_⟩
      · have hd := Int32.le_iff_toInt_le.mp hd
        exact num (fun _ _ => by omega)
      · have hd := mt Int32.le_iff_toInt_le.mpr hd
        have q99 := (tkp_f hS.2.2.1).2 (by have : (I t 23).toInt = 2 := hn; omega)
        have hv0 : 0 ≤ (I t 25).toInt := by
          rw [hfg]
          have d := tkp_d hS.2.2.1 hn
          show 0 ≤ vl T (I t 24).toInt (I t 22).toInt
          have d1 := d (I t 24).toInt.toNat (by omega) (by omega)
          unfold vl
          split
          · omega
          · split
            · have d2 := d ((I t 24).toInt.toNat + 1) (by omega) (by omega)
              omega
            · omega
        have b := bt_iff x1 hv0
        refine sfX12_has trivial (fun v6 p6 => ⟨fun hz => num (fun _ _ => ?_), fun hz => ?_⟩)
        · have hz := i0 hz
          rw [← hfg, Bool.not_eq_true']
          cases e : bt x1 (I t 25).toInt.toNat with
          | false => rfl
          | true => exact absurd (Int32.toInt_inj.mp (show _ = (0 : Int32).toInt by omega)) (b.mp e)
        · have hz := i1 hz
          refine fsfX12_wrong ht hW (fun v8 I7 hW7 hF7 hp7 => ⟨narrow_b (Or.inl hp7.1), hK v8 I7 hW7 (Fr.tr hF hF7 (by intro a k h; omega)) (Or.inr ⟨hp7.1, ?_⟩)⟩)
          have hb : bt x1 (I t 25).toInt.toNat = true := b.mpr (fun z => by rw [z] at p6; omega)
          rw [← hr, metR_e hn (nm_n (p := (I7 t 26).toInt) (Or.inr (fun z => by rw [← hfg, hb] at z; cases z)) hp7.2)]
          rfl
theorem pX12_metTold {G : jdG} {n : Nat} {Z : jdL} {J : jdJ} {K : Int32 → jdI → jdJ → Prop} {I : jdI} {t : Nat} {T : Nat → Int32} {m : Int} {w : Tw} (ht : zModel Z t) (hW : WM 7 t I) (hS : SM T m I t) (hw : RM I t w) (hK : ∀ (v : Int32) (I2 : jdI), WM 7 t I2 → Fr (fun a k => (a = t ∧ (k = 10 ∨ k = 14 ∨ k = 15 ∨ (22 ≤ k ∧ k ≤ 26))) ∨ a = t + 18 ∨ a = t + 19 ∨ (t + 21 ≤ a ∧ a ≤ t + 29)) I I2 → OM T m (stMet T m w (qmo I t)) t v I2 → K v I2 J) : Cl G mX12_metTold (n + 4) 0 0 [.ref (gb G + t)] Z I J (qi Z K) := by
  have hp := WM_f hW
  have hw1 := hw.1
  have q1 : (1 : Int32).toInt = 1 := rfl
  have s1 := i32_sub (I t 10) 1 (by omega) (by omega)
  have e1 : ((I t 10) - 1).toInt = w.1 - 1 := by omega
  refine eX12_metTold ht ?_
  refine pX12_tells ht hW hS.1 hS.2.1 (tkp_f hS.2.2.1).1 ⟨by decide, by omega⟩ (fun v I1 hW1 hF1 hp1 => ⟨fun hv => ?_, fun hv => ?_⟩)
  · have hv := i1 hv
    rw [e1] at hp1
    rcases hp1 with ⟨p1, p2, p3, p4, p5, p6⟩ | ⟨p1, p2⟩
    · have hR1 := RM_fr hw (by omega) hF1 (by omega) (by omega) (by omega) (by intro a k h1 h2 h3; omega)
      have hF : Fr (fun a k => (a = t ∧ (k = 10 ∨ k = 14 ∨ k = 15 ∨ (22 ≤ k ∧ k ≤ 26))) ∨ a = t + 18 ∨ a = t + 19 ∨ (t + 21 ≤ a ∧ a ≤ t + 29)) I I1 := Fr.tr Fr.rf hF1 (by intro a k h; omega)
      have p4 : 0 ≤ (I1 (t + 29) 0).toInt := p4
      obtain ⟨b1, b2, b3⟩ := fr_1 (a := I1 (t + 29) 0) ⟨p4, by omega⟩
      refine pX12_metTold_25 ht hK 7 I1 _ hW1 hF p2 hR1 (by omega) ⟨b2, b3⟩ ?_
      unfold stMet
      rw [show nm T m (adv T m (qmo I t).2.2) 0 (w.1 - 1) (fun _ => true) = .inr ((I1 (t + 29) 0).toInt, qmo I1 t) from p3]
      show _ = fin w (metR T m w.1 7 ((1 : Int32) <<< (Int32.ofInt (I1 (t + 29) 0).toInt &&& 31)) (qmo I1 t))
      rw [ofI]
    · omega
  · have hv := i0 hv
    rw [e1] at hp1
    rcases hp1 with ⟨p1, p2, p3, p4, p5, p6⟩ | ⟨p1, p2⟩
    · omega
    · refine hK 0 I1 hW1 (Fr.tr Fr.rf hF1 (by intro a k h; omega)) (Or.inr ⟨rfl, ?_⟩)
      unfold stMet
      rw [show nm T m (adv T m (qmo I t).2.2) 0 (w.1 - 1) (fun _ => true) = .inl (I1 t 26).toInt from p2]
/-- a statement -/
noncomputable def st (T : Nat → Int32) (n : Int) (w : Tw) (q : Q3) : Sum Int (Tw × Q3) := @ite _ (WD T q.1 q.2.1 q.2.2 0) (Classical.propDecidable _) (stPerson T n w q) (@ite _ (WD T q.1 q.2.1 q.2.2 1) (Classical.propDecidable _) (stPair T n w q true) (@ite _ (WD T q.1 q.2.1 q.2.2 3) (Classical.propDecidable _) (stPair T n w q false) (@ite _ (WD T q.1 q.2.1 q.2.2 4) (Classical.propDecidable _) (stSeats T n w q) (@ite _ (WD T q.1 q.2.1 q.2.2 5) (Classical.propDecidable _) (stMemory T n w q) (@ite _ (WD T q.1 q.2.1 q.2.2 6) (Classical.propDecidable _) (stMet T n w q) (Sum.inl q.2.1))))))
theorem st_0 {T : Nat → Int32} {n : Int} {w : Tw} {q : Q3}  (h : WD T q.1 q.2.1 q.2.2 0) : st T n w q = stPerson T n w q := by
  unfold st
  rw [if_pos h]
theorem st_1 {T : Nat → Int32} {n : Int} {w : Tw} {q : Q3} (h0 : ¬ WD T q.1 q.2.1 q.2.2 0) (h : WD T q.1 q.2.1 q.2.2 1) : st T n w q = stPair T n w q true := by
  unfold st
  rw [if_neg h0, if_pos h]
theorem st_2 {T : Nat → Int32} {n : Int} {w : Tw} {q : Q3} (h0 : ¬ WD T q.1 q.2.1 q.2.2 0) (h1 : ¬ WD T q.1 q.2.1 q.2.2 1) (h : WD T q.1 q.2.1 q.2.2 3) : st T n w q = stPair T n w q false := by
  unfold st
  rw [if_neg h0, if_neg h1, if_pos h]
theorem st_3 {T : Nat → Int32} {n : Int} {w : Tw} {q : Q3} (h0 : ¬ WD T q.1 q.2.1 q.2.2 0) (h1 : ¬ WD T q.1 q.2.1 q.2.2 1) (h3 : ¬ WD T q.1 q.2.1 q.2.2 3) (h : WD T q.1 q.2.1 q.2.2 4) : st T n w q = stSeats T n w q := by
  unfold st
  rw [if_neg h0, if_neg h1, if_neg h3, if_pos h]
theorem st_4 {T : Nat → Int32} {n : Int} {w : Tw} {q : Q3} (h0 : ¬ WD T q.1 q.2.1 q.2.2 0) (h1 : ¬ WD T q.1 q.2.1 q.2.2 1) (h3 : ¬ WD T q.1 q.2.1 q.2.2 3) (h4 : ¬ WD T q.1 q.2.1 q.2.2 4) (h : WD T q.1 q.2.1 q.2.2 5) : st T n w q = stMemory T n w q := by
  unfold st
  rw [if_neg h0, if_neg h1, if_neg h3, if_neg h4, if_pos h]
theorem st_5 {T : Nat → Int32} {n : Int} {w : Tw} {q : Q3} (h0 : ¬ WD T q.1 q.2.1 q.2.2 0) (h1 : ¬ WD T q.1 q.2.1 q.2.2 1) (h3 : ¬ WD T q.1 q.2.1 q.2.2 3) (h4 : ¬ WD T q.1 q.2.1 q.2.2 4) (h5 : ¬ WD T q.1 q.2.1 q.2.2 5) (h : WD T q.1 q.2.1 q.2.2 6) : st T n w q = stMet T n w q := by
  unfold st
  rw [if_neg h0, if_neg h1, if_neg h3, if_neg h4, if_neg h5, if_pos h]
theorem st_6 {T : Nat → Int32} {n : Int} {w : Tw} {q : Q3} (h0 : ¬ WD T q.1 q.2.1 q.2.2 0) (h1 : ¬ WD T q.1 q.2.1 q.2.2 1) (h3 : ¬ WD T q.1 q.2.1 q.2.2 3) (h4 : ¬ WD T q.1 q.2.1 q.2.2 4) (h5 : ¬ WD T q.1 q.2.1 q.2.2 5) (h6 : ¬ WD T q.1 q.2.1 q.2.2 6) : st T n w q = Sum.inl q.2.1 := by
  unfold st
  rw [if_neg h0, if_neg h1, if_neg h3, if_neg h4, if_neg h5, if_neg h6]
theorem OX_b {T : Nat → Int32} {m : Int} {r : Sum Int (Tw × Q3)} {u1 : Nat} {v : Int32} {I2 : jdI} (h : OX T m r u1 v I2) : narrow .boolean (.int v) = .int v := h.elim (fun g => narrow_b (Or.inr g.1)) (fun g => narrow_b (Or.inl g.1))
theorem OM_b {T : Nat → Int32} {m : Int} {r : Sum Int (Tw × Q3)} {t : Nat} {v : Int32} {I2 : jdI} (h : OM T m r t v I2) : narrow .boolean (.int v) = .int v := h.elim (fun g => narrow_b (Or.inr g.1)) (fun g => narrow_b (Or.inl g.1))
theorem wX {G : jdG} {n : Nat} {Z : jdL} {J : jdJ} {I : jdI} {T : Nat → Int32} {m : Int} {u : Nat} {sA sV : Nat → Nat} {A B : Int32 → jdI → jdJ → Prop} (hG : gOK G sA sV) (ht : zScribe Z 25) (hu : u < 14) (hW : WX I) (hS : SX T m I) (h0 : ¬ WD T (qx I).1 (qx I).2.1 (qx I).2.2 u → ∀ v, A v I J) (h1 : WD T (qx I).1 (qx I).2.1 (qx I).2.2 u → ∀ v, B v I J) : Cl G mX5_isWord (n + 4) 0 0 [.ref (gb G + 25), .ref (sA u)] Z I J (qi Z (fun v I J => (v = 0 → A v I J) ∧ (¬ v = 0 → B v I J))) := by
  refine fsfX5_isWord hG ht hu hW (by rw [hS.1, hS.2.1]; exact hS.2.2) (fun v hwd => ?_)
  rw [hS.1] at hwd
  rcases hwd with hwd | hwd
  · exact ⟨fun h => by have := i0 h; omega, fun _ => h1 hwd.2 v⟩
  · exact ⟨fun _ => h0 hwd.2 v, fun h => by have := i1 h; omega⟩
theorem wM {G : jdG} {n : Nat} {Z : jdL} {J : jdJ} {I : jdI} {t : Nat} {T : Nat → Int32} {m : Int} {u : Nat} {sA sV : Nat → Nat} {A B : Int32 → jdI → jdJ → Prop} (hG : gOK G sA sV) (ht : zModel Z t) (hu : u < 14) (hW : WM 7 t I) (hS : SM T m I t) (h0 : ¬ WD T (qmo I t).1 (qmo I t).2.1 (qmo I t).2.2 u → ∀ v, A v I J) (h1 : WD T (qmo I t).1 (qmo I t).2.1 (qmo I t).2.2 u → ∀ v, B v I J) : Cl G mX12_isWord (n + 4) 0 0 [.ref (gb G + t), .ref (sA u)] Z I J (qi Z (fun v I J => (v = 0 → A v I J) ∧ (¬ v = 0 → B v I J))) := by
  refine fsfX12_isWord hG ht hu hW (by rw [hS.1, hS.2.1]; exact hS.2.2.1) (fun v hwd => ?_)
  rw [hS.1] at hwd
  rcases hwd with hwd | hwd
  · exact ⟨fun h => by have := i0 h; omega, fun _ => h1 hwd.2 v⟩
  · exact ⟨fun _ => h0 hwd.2 v, fun h => by have := i1 h; omega⟩
theorem pX5_readStatement {G : jdG} {n : Nat} {Z : jdL} {J : jdJ} {K : Int32 → jdI → jdJ → Prop} {I : jdI} {u1 : Nat} {T : Nat → Int32} {m : Int} {w : Tw} {sA sV : Nat → Nat} (hG : gOK G sA sV) (ht : zScribe Z 25) (hu1 : zTown Z u1) (hus : u1 = 1 ∨ u1 = 5 ∨ u1 = 9) (hW : WX I) (hS : SX T m I) (hw : RX I u1 w) (hK : ∀ (v : Int32) (I2 : jdI), WX I2 → Fr (fun a k => a = 25 ∨ (a = u1 ∧ 3 ≤ k ∧ k ≤ 5) ∨ (u1 + 1 ≤ a ∧ a ≤ u1 + 3)) I I2 → (I2 25 1).toInt = m → OX T m (st T m w (qx I)) u1 v I2 → K v I2 J) : Cl G mX5_readStatement (n + 6) 0 0 [.ref (gb G + 25), .ref (gb G + u1)] Z I J (qi Z K) := by
  refine eX5_readStatement hG ht hu1 ?_
  refine wX hG ht (by decide) hW hS (fun n0 _ => ?_) (fun y _ => ?_)
  · refine wX hG ht (by decide) hW hS (fun n1 _ => ?_) (fun y _ => ?_)
    · refine wX hG ht (by decide) hW hS (fun n3 _ => ?_) (fun y _ => ?_)
      · refine wX hG ht (by decide) hW hS (fun n4 _ => ?_) (fun y _ => ?_)
        · refine wX hG ht (by decide) hW hS (fun n5 _ => ?_) (fun y _ => ?_)
          · refine wX hG ht (by decide) hW hS (fun n6 _ => ?_) (fun y _ => ?_)
            · refine fsfX5_fail ht hW (fun v I9 hW9 hF9 hp => ⟨narrow_b (Or.inl hp.1), ?_⟩)
              refine hK v I9 hW9 (Fr.tr Fr.rf hF9 (by intro a k h; omega)) (by rw [hp.2.2]; exact hS.2.1) (Or.inr ⟨hp.1, ?_⟩)
              rw [st_6 n0 n1 n3 n4 n5 n6, hp.2.1]
              rfl
            · exact pX5_readMet ht hu1 hus hW hS hw (fun v I2 hW2 hF2 hm h => ⟨OX_b h, hK v I2 hW2 hF2 hm (by rw [st_5 n0 n1 n3 n4 n5 y]; exact h)⟩)
          · exact pX5_readMemory ht hu1 hus hW hS hw (fun v I2 hW2 hF2 hm h => ⟨OX_b h, hK v I2 hW2 hF2 hm (by rw [st_4 n0 n1 n3 n4 y]; exact h)⟩)
        · exact pX5_readSeats ht hu1 hus hW hS hw (fun v I2 hW2 hF2 hm h => ⟨OX_b h, hK v I2 hW2 hF2 hm (by rw [st_3 n0 n1 n3 y]; exact h)⟩)
      · exact pX5_readPair hG ht hu1 hus hW hS hw false (Or.inl ⟨rfl, rfl⟩) (fun v I2 hW2 hF2 hm h => ⟨OX_b h, hK v I2 hW2 hF2 hm (by rw [st_2 n0 n1 y]; exact h)⟩)
    · exact pX5_readPair hG ht hu1 hus hW hS hw true (Or.inr ⟨by decide, rfl⟩) (fun v I2 hW2 hF2 hm h => ⟨OX_b h, hK v I2 hW2 hF2 hm (by rw [st_1 n0 y]; exact h)⟩)
  · exact pX5_readPerson ht hu1 hus hW hS hw (fun v I2 hW2 hF2 hm h => ⟨OX_b h, hK v I2 hW2 hF2 hm (by rw [st_0 y]; exact h)⟩)
theorem WD_0 {T : Nat → Int32} {tk s f : Int} (h : WD T tk s f 0) : ¬ WD T tk s f 1 ∧ ¬ WD T tk s f 3 ∧ ¬ WD T tk s f 4 ∧ ¬ WD T tk s f 5 ∧ ¬ WD T tk s f 6 := by
  have a0 : (sl 0).toInt = 6 := rfl
  have a1 : (sl 1).toInt = 4 := rfl
  have a3 : (sl 3).toInt = 7 := rfl
  have a4 : (sl 4).toInt = 5 := rfl
  have a6 : (sl 6).toInt = 3 := rfl
  have a5 : (sl 5).toInt = 6 := rfl
  have b := h.2.1
  refine ⟨fun g => by have := g.2.1; omega, fun g => by have := g.2.1; omega, fun g => by have := g.2.1; omega, fun g => ?_, fun g => by have := g.2.1; omega⟩
  have c := (h.2.2 0 (by rw [a0]; decide)).symm.trans (g.2.2 0 (by rw [a5]; decide))
  exact absurd c (by decide)
theorem uI_id (I : jdI) (a k : Nat) : uI I a k (I a k) = I := by
  funext x y
  rw [uI_ap]
  split
  · rename_i h
    rw [h.1, h.2]
  · rfl
theorem pX12_person {G : jdG} {n : Nat} {Z : jdL} {J : jdJ} {K : Int32 → jdI → jdJ → Prop} {I : jdI} {t : Nat} {T : Nat → Int32} {m : Int} {w : Tw} (ht : zModel Z t) (hW : WM 7 t I) (hS : SM T m I t) (hw : RM I t w) (h7 : w.1 < 7) (hK : ∀ (v : Int32) (I2 : jdI), WM 7 t I2 → Fr (fun a k => (a = t ∧ (k = 10 ∨ k = 14 ∨ k = 15 ∨ (22 ≤ k ∧ k ≤ 26))) ∨ a = t + 18 ∨ a = t + 19 ∨ (t + 21 ≤ a ∧ a ≤ t + 29)) I I2 → OM T m (stPerson T m w (qmo I t)) t v I2 → K v I2 J) : Cl G mX12_tells (n + 3) 0 0 [.ref (gb G + t), .int 0, .int 23] Z I J (qi Z (fun v52 I51 J51 => ((v52 = 0 → K 0 I51 J51) ∧ (¬ v52 = 0 → Cl G mX12_number (n + 3) 0 0 [.ref (gb G + t), .int 1, .int 0, .int 9] Z I51 J51 (qi Z (fun v54 I53 J53 => ((¬ v54 = 0 → Cl G mX12_addOne (n + 3) 0 0 [.ref (gb G + t), .int (I53 (t + 29) 0), .int (I53 (t + 29) 1)] Z I53 J53 (qv Z (fun I55 J55 => K 1 I55 J55))) ∧ (v54 = 0 → K 0 I53 J53)))))))) := by
  have h7' : ¬ 7 ≤ w.1 := by omega
  refine pX12_tells ht hW hS.1 hS.2.1 (tkp_f hS.2.2.1).1 (by decide) (fun v I1 hW1 hF1 hp1 => ⟨fun hv => ?_, fun hv => ?_⟩)
  · have hv := i0 hv
    rcases hp1 with ⟨p1, p2, p3, p4, p5, p6⟩ | ⟨p1, p2⟩
    · omega
    · refine hK 0 I1 hW1 (Fr.tr Fr.rf hF1 (by intro a k h; omega)) (Or.inr ⟨rfl, ?_⟩)
      unfold stPerson
      rw [if_neg h7', show nm T m (adv T m (qmo I t).2.2) 0 23 (fun _ => true) = .inl (I1 t 26).toInt from p2]
  · have hv := i1 hv
    rcases hp1 with ⟨p1, p2, p3, p4, p5, p6⟩ | ⟨p1, p2⟩
    · have hR1 := RM_fr hw (by omega) hF1 (by omega) (by omega) (by omega) (by intro a k h1 h2 h3; omega)
      have hF : Fr (fun a k => (a = t ∧ (k = 10 ∨ k = 14 ∨ k = 15 ∨ (22 ≤ k ∧ k ≤ 26))) ∨ a = t + 18 ∨ a = t + 19 ∨ (t + 21 ≤ a ∧ a ≤ t + 29)) I I1 := Fr.tr Fr.rf hF1 (by intro a k h; omega)
      have e1 : nm T m (adv T m (qmo I t).2.2) 0 23 (fun _ => true) = .inr ((I1 (t + 29) 0).toInt, qmo I1 t) := p3
      refine pX12_number ht hW1 p2 (Or.inr rfl) (by decide) (fun v4 I3 hW3 hF3 hp3 => ?_)
      have hF3' : Fr (fun a k => (a = t ∧ (k = 10 ∨ k = 14 ∨ k = 15 ∨ (22 ≤ k ∧ k ≤ 26))) ∨ a = t + 18 ∨ a = t + 19 ∨ (t + 21 ≤ a ∧ a ≤ t + 29)) I I3 := Fr.tr hF hF3 (by intro a k h; omega)
      rcases hp3 with ⟨r1, r2, g, r3, r4, r5, r6, _, r7⟩ | ⟨r1, r2⟩
      · obtain ⟨t1, t2⟩ := r7 rfl
        refine ⟨fun _ => ?_, fun hz => by have := i0 hz; omega⟩
        have hR3 := RM_fr hR1 (by omega) hF3 (by omega) (by omega) (by omega) (by intro a k h1 h2 h3; omega)
        refine pX12_addOne ht hW3 hR3 h7 (fun I5 hW5 hF5 hR5 => ?_)
        obtain ⟨g1, g2⟩ := SM_fr r2 hF5 (by omega) (by intro k h1 h2; omega) (by intro k; omega)
        refine hK 1 I5 hW5 (Fr.tr hF3' hF5 (by intro a k h; omega)) (Or.inl ⟨rfl, g1, _, ?_, hR5⟩)
        unfold stPerson
        rw [if_neg h7', e1]
        show (match nm T m (qmo I1 t) 0 9 (fun _ => true) with | .inl p => Sum.inl p | .inr c => Sum.inr (addT w (Int32.ofInt (I1 (t + 29) 0).toInt) (Int32.ofInt c.1), c.2)) = _
        rw [show nm T m (qmo I1 t) 0 9 (fun _ => true) = .inr (g, qmo I3 t) from r3, g2]
        show Sum.inr (addT w (Int32.ofInt (I1 (t + 29) 0).toInt) (Int32.ofInt g), qmo I3 t) = _
        rw [← t1, ← t2, ofI, ofI]
      · refine ⟨fun hz => by have := i1 hz; omega, fun _ => hK 0 I3 hW3 hF3' (Or.inr ⟨rfl, ?_⟩)⟩
        unfold stPerson
        rw [if_neg h7', e1]
        show (match nm T m (qmo I1 t) 0 9 (fun _ => true) with | .inl p => Sum.inl p | .inr c => Sum.inr (addT w (Int32.ofInt (I1 (t + 29) 0).toInt) (Int32.ofInt c.1), c.2)) = _
        rw [show nm T m (qmo I1 t) 0 9 (fun _ => true) = .inl (I3 t 26).toInt from r2]
    · omega
theorem pX12_strange {G : jdG} {n : Nat} {Z : jdL} {J : jdJ} {K : Int32 → jdI → jdJ → Prop} {I : jdI} {t : Nat} {T : Nat → Int32} {m : Int} {w : Tw} (ht : zModel Z t) (hW : WM 7 t I) (hS : SM T m I t) (hw : RM I t w) (hK : ∀ (v : Int32) (I2 : jdI), WM 7 t I2 → Fr (fun a k => (a = t ∧ (k = 10 ∨ k = 14 ∨ k = 15 ∨ (22 ≤ k ∧ k ≤ 26))) ∨ a = t + 18 ∨ a = t + 19 ∨ (t + 21 ≤ a ∧ a ≤ t + 29)) I I2 → OM T m (stPair T m w (qmo I t) false) t v I2 → K v I2 J) : Cl G mX12_twoTold (n + 4) 0 0 [.ref (gb G + t)] Z I J (qi Z (fun v22 I21 J21 => ((v22 = 0 → (narrow .boolean (.int v22) = .int v22 ∧ K v22 I21 J21)) ∧ (¬ v22 = 0 → Cl G mX12_knows (n + 4) 0 0 [.ref (gb G + t), .int (I21 (t + 29) 0), .int (I21 (t + 29) 1), .int (-1)] Z I21 J21 (qv Z (fun I23 J23 => (narrow .boolean (.int v22) = .int v22 ∧ K v22 I23 J23))))))) := by
  have hp := WM_f hW
  have hw1 := hw.1
  refine pX12_twoTold ht hW hS hw (fun v I1 hW1 hF1 hp1 => ⟨fun hv => ?_, fun hv => ?_⟩)
  · have hv := i0 hv
    rcases hp1 with ⟨p1, p2, p3, p4, p5⟩ | ⟨p1, p2⟩
    · omega
    · refine ⟨narrow_b (Or.inl p1), hK v I1 hW1 (Fr.tr Fr.rf hF1 (by intro a k h; omega)) (Or.inr ⟨p1, ?_⟩)⟩
      rw [stPair_two, p2]
  · have hv := i1 hv
    rcases hp1 with ⟨p1, p2, p3, p4, p5⟩ | ⟨p1, p2⟩
    · have hR1 := RM_fr hw (by omega) hF1 (by omega) (by omega) (by omega) (by intro a k h1 h2 h3; omega)
      have hF : Fr (fun a k => (a = t ∧ (k = 10 ∨ k = 14 ∨ k = 15 ∨ (22 ≤ k ∧ k ≤ 26))) ∨ a = t + 18 ∨ a = t + 19 ∨ (t + 21 ≤ a ∧ a ≤ t + 29)) I I1 := Fr.tr Fr.rf hF1 (by intro a k h; omega)
      have eN : stPair T m w (qmo I t) false = .inr (tieT w (I1 (t + 29) 0).toInt.toNat (I1 (t + 29) 1).toInt.toNat (-1), qmo I1 t) := by
        rw [stPair_two, p3]
        show @ite _ (false = true ∧ WD T (qmo I1 t).1 (qmo I1 t).2.1 (qmo I1 t).2.2 2) (Classical.propDecidable _) _ _ = _
        rw [if_neg (fun q => by cases q.1)]
        rfl
      refine pX12_knows ht hW1 hR1 p4 p5 (fun I5 hW5 hF5 hR5 => ⟨narrow_b (Or.inr p1), ?_⟩)
      obtain ⟨g1, g2⟩ := SM_fr p2 hF5 (by omega) (by intro k h1 h2; omega) (by intro k; omega)
      refine hK v I5 hW5 (Fr.tr hF hF5 (by intro a k h; omega)) (Or.inl ⟨p1, g1, _, ?_, hR5⟩)
      rw [eN, g2]
      rfl
    · omega
theorem pX12_seats {G : jdG} {n : Nat} {Z : jdL} {J : jdJ} {K : Int32 → jdI → jdJ → Prop} {I : jdI} {t : Nat} {T : Nat → Int32} {m : Int} {w : Tw} (ht : zModel Z t) (hW : WM 7 t I) (hS : SM T m I t) (hw : RM I t w) (hK : ∀ (v : Int32) (I2 : jdI), WM 7 t I2 → Fr (fun a k => (a = t ∧ (k = 10 ∨ k = 14 ∨ k = 15 ∨ (22 ≤ k ∧ k ≤ 26))) ∨ a = t + 18 ∨ a = t + 19 ∨ (t + 21 ≤ a ∧ a ≤ t + 29)) I I2 → OM T m (stSeats T m w (qmo I t)) t v I2 → K v I2 J) : Cl G mX12_tells (n + 3) 0 0 [.ref (gb G + t), .int 2, .int 4] Z I J (qi Z (fun v20 I19 J19 => ((v20 = 0 → (narrow .boolean (.int v20) = .int v20 ∧ K v20 (uI I19 t 14 (I19 t 14)) J19)) ∧ (¬ v20 = 0 → (narrow .boolean (.int v20) = .int v20 ∧ K v20 (uI I19 t 14 (I19 (t + 29) 0)) J19))))) := by
  refine pX12_tells ht hW hS.1 hS.2.1 (tkp_f hS.2.2.1).1 (by decide) (fun v I1 hW1 hF1 hp1 => ⟨fun hv => ?_, fun hv => ?_⟩)
  · have hv := i0 hv
    rcases hp1 with ⟨p1, p2, p3, p4, p5, p6⟩ | ⟨p1, p2⟩
    · omega
    · rw [uI_id]
      refine ⟨narrow_b (Or.inl p1), hK v I1 hW1 (Fr.tr Fr.rf hF1 (by intro a k h; omega)) (Or.inr ⟨p1, ?_⟩)⟩
      unfold stSeats
      rw [show nm T m (adv T m (qmo I t).2.2) 2 4 (fun _ => true) = .inl (I1 t 26).toInt from p2]
  · have hv := i1 hv
    rcases hp1 with ⟨p1, p2, p3, p4, p5, p6⟩ | ⟨p1, p2⟩
    · have p4 : 2 ≤ (I1 (t + 29) 0).toInt := p4
      have p5 : (I1 (t + 29) 0).toInt ≤ 4 := p5
      have hp := WM_f hW
      have hw1 := hw.1
      have hR1 := RM_fr hw (by omega) hF1 (by omega) (by omega) (by omega) (by intro a k h1 h2 h3; omega)
      have hF : Fr (fun a k => (a = t ∧ (k = 10 ∨ k = 14 ∨ k = 15 ∨ (22 ≤ k ∧ k ≤ 26))) ∨ a = t + 18 ∨ a = t + 19 ∨ (t + 21 ≤ a ∧ a ≤ t + 29)) I I1 := Fr.tr Fr.rf hF1 (by intro a k h; omega)
      have f0 : Fr (fun a k => a = t ∧ k = 14) I1 (uI I1 t 14 (I1 (t + 29) 0)) := Fr_uI Fr.rf ⟨rfl, rfl⟩
      obtain ⟨g1, g2⟩ := SM_fr p2 f0 (by omega) (by intro k h1 h2; omega) (by intro k; omega)
      refine ⟨narrow_b (Or.inr p1), hK v _ (WM_uI hW1 (by first | exact okMo (by decide) (by decide) (by decide) (by decide) (by decide) | exact okMf (by decide) (by decide) (by decide) (by decide) (by decide) (by decide) (by decide) (by decide) | exact okM30 (by omega) | exact okM42 (by omega) | exact okM33 (by omega) | exact okM10 (by omega) | exact okM8 (by omega) | exact okM22 (by omega) | exact okM24 (by omega) | exact okM14 (by omega) | exact okMa31 (by omega) | exact okMa35 (by omega) | exact okMa36 (by omega) | exact okMa3 (by omega) | exact okMr (by omega) | (unfold okM; refine ⟨?_, ?_, ?_, ?_, ?_, ?_, ?_, ?_, ?_, ?_, ?_, ?_⟩ <;> intro h <;> omega))) (Fr.tr hF f0 (by intro a k h; omega)) (Or.inl ⟨p1, g1, seatT w (I1 (t + 29) 0).toInt, ?_, ?_⟩)⟩
      · unfold stSeats
        rw [show nm T m (adv T m (qmo I t).2.2) 2 4 (fun _ => true) = .inr ((I1 (t + 29) 0).toInt, qmo I1 t) from p3, g2]
      · obtain ⟨r1, r2, r3, r4, r5⟩ := hR1
        exact ⟨by rw [f0 t 10 (by omega)]; exact r1, fun i hi => by rw [f0 (t + 18) i (by omega), f0 (t + 19) i (by omega)]; exact r2 i hi, by rw [uI_ap, if_pos ⟨rfl, rfl⟩]; rfl, by rw [f0 t 15 (by omega)]; exact r4, fun i j hi hj hne => by rw [f0 (t + 21 + i) _ (by omega)]; exact r5 i j hi hj hne⟩
    · omega
theorem pX12_memory {G : jdG} {n : Nat} {Z : jdL} {J : jdJ} {K : Int32 → jdI → jdJ → Prop} {I : jdI} {t : Nat} {T : Nat → Int32} {m : Int} {w : Tw} (ht : zModel Z t) (hW : WM 7 t I) (hS : SM T m I t) (hw : RM I t w) (hK : ∀ (v : Int32) (I2 : jdI), WM 7 t I2 → Fr (fun a k => (a = t ∧ (k = 10 ∨ k = 14 ∨ k = 15 ∨ (22 ≤ k ∧ k ≤ 26))) ∨ a = t + 18 ∨ a = t + 19 ∨ (t + 21 ≤ a ∧ a ≤ t + 29)) I I2 → OM T m (stMemory T m w (qmo I t)) t v I2 → K v I2 J) : Cl G mX12_tells (n + 3) 0 0 [.ref (gb G + t), .int 0, .int 99] Z I J (qi Z (fun v20 I19 J19 => ((v20 = 0 → (narrow .boolean (.int v20) = .int v20 ∧ K v20 (uI I19 t 15 (I19 t 15)) J19)) ∧ (¬ v20 = 0 → (narrow .boolean (.int v20) = .int v20 ∧ K v20 (uI I19 t 15 (I19 (t + 29) 0)) J19))))) := by
  refine pX12_tells ht hW hS.1 hS.2.1 (tkp_f hS.2.2.1).1 (by decide) (fun v I1 hW1 hF1 hp1 => ⟨fun hv => ?_, fun hv => ?_⟩)
  · have hv := i0 hv
    rcases hp1 with ⟨p1, p2, p3, p4, p5, p6⟩ | ⟨p1, p2⟩
    · omega
    · rw [uI_id]
      refine ⟨narrow_b (Or.inl p1), hK v I1 hW1 (Fr.tr Fr.rf hF1 (by intro a k h; omega)) (Or.inr ⟨p1, ?_⟩)⟩
      unfold stMemory
      rw [show nm T m (adv T m (qmo I t).2.2) 0 99 (fun _ => true) = .inl (I1 t 26).toInt from p2]
  · have hv := i1 hv
    rcases hp1 with ⟨p1, p2, p3, p4, p5, p6⟩ | ⟨p1, p2⟩
    · have p4 : 0 ≤ (I1 (t + 29) 0).toInt := p4
      have p5 : (I1 (t + 29) 0).toInt ≤ 99 := p5
      have hp := WM_f hW
      have hw1 := hw.1
      have hR1 := RM_fr hw (by omega) hF1 (by omega) (by omega) (by omega) (by intro a k h1 h2 h3; omega)
      have hF : Fr (fun a k => (a = t ∧ (k = 10 ∨ k = 14 ∨ k = 15 ∨ (22 ≤ k ∧ k ≤ 26))) ∨ a = t + 18 ∨ a = t + 19 ∨ (t + 21 ≤ a ∧ a ≤ t + 29)) I I1 := Fr.tr Fr.rf hF1 (by intro a k h; omega)
      have f0 : Fr (fun a k => a = t ∧ k = 15) I1 (uI I1 t 15 (I1 (t + 29) 0)) := Fr_uI Fr.rf ⟨rfl, rfl⟩
      obtain ⟨g1, g2⟩ := SM_fr p2 f0 (by omega) (by intro k h1 h2; omega) (by intro k; omega)
      refine ⟨narrow_b (Or.inr p1), hK v _ (WM_uI hW1 (by first | exact okMo (by decide) (by decide) (by decide) (by decide) (by decide) | exact okMf (by decide) (by decide) (by decide) (by decide) (by decide) (by decide) (by decide) (by decide) | exact okM30 (by omega) | exact okM42 (by omega) | exact okM33 (by omega) | exact okM10 (by omega) | exact okM8 (by omega) | exact okM22 (by omega) | exact okM24 (by omega) | exact okM14 (by omega) | exact okMa31 (by omega) | exact okMa35 (by omega) | exact okMa36 (by omega) | exact okMa3 (by omega) | exact okMr (by omega) | (unfold okM; refine ⟨?_, ?_, ?_, ?_, ?_, ?_, ?_, ?_, ?_, ?_, ?_, ?_⟩ <;> intro h <;> omega))) (Fr.tr hF f0 (by intro a k h; omega)) (Or.inl ⟨p1, g1, memT w (I1 (t + 29) 0).toInt, ?_, ?_⟩)⟩
      · unfold stMemory
        rw [show nm T m (adv T m (qmo I t).2.2) 0 99 (fun _ => true) = .inr ((I1 (t + 29) 0).toInt, qmo I1 t) from p3, g2]
      · obtain ⟨r1, r2, r3, r4, r5⟩ := hR1
        exact ⟨by rw [f0 t 10 (by omega)]; exact r1, fun i hi => by rw [f0 (t + 18) i (by omega), f0 (t + 19) i (by omega)]; exact r2 i hi, by rw [f0 t 14 (by omega)]; exact r3, by rw [uI_ap, if_pos ⟨rfl, rfl⟩]; rfl, fun i j hi hj hne => by rw [f0 (t + 21 + i) _ (by omega)]; exact r5 i j hi hj hne⟩
    · omega
theorem pX12_statement {G : jdG} {n : Nat} {Z : jdL} {J : jdJ} {K : Int32 → jdI → jdJ → Prop} {I : jdI} {t : Nat} {T : Nat → Int32} {m : Int} {w : Tw} {sA sV : Nat → Nat} (hG : gOK G sA sV) (ht : zModel Z t) (hW : WM 7 t I) (hS : SM T m I t) (hw : RM I t w) (hK : ∀ (v : Int32) (I2 : jdI), WM 7 t I2 → Fr (fun a k => (a = t ∧ (k = 10 ∨ k = 14 ∨ k = 15 ∨ (22 ≤ k ∧ k ≤ 26))) ∨ a = t + 18 ∨ a = t + 19 ∨ (t + 21 ≤ a ∧ a ≤ t + 29)) I I2 → OM T m (st T m w (qmo I t)) t v I2 → K v I2 J) : Cl G mX12_statement (n + 6) 0 0 [.ref (gb G + t)] Z I J (qi Z K) := by
  have hp := WM_f hW
  have hw1 := hw.1
  have q7 : (7 : Int32).toInt = 7 := rfl
  refine eX12_statement hG ht ?_
  refine wM hG ht (by decide) hW hS (fun n0 _ => ?_) (fun y _ => ?_)
  · have n0 : ¬ WD T (qmo I t).1 (qmo I t).2.1 (qmo I t).2.2 0 := n0
    refine wM hG ht (by decide) hW hS (fun n1 _ => ?_) (fun y _ => ?_)
    · have n1 : ¬ WD T (qmo I t).1 (qmo I t).2.1 (qmo I t).2.2 1 := n1
      refine wM hG ht (by decide) hW hS (fun n3 _ => ?_) (fun y _ => ?_)
      · have n3 : ¬ WD T (qmo I t).1 (qmo I t).2.1 (qmo I t).2.2 3 := n3
        refine wM hG ht (by decide) hW hS (fun n4 _ => ?_) (fun y _ => ?_)
        · have n4 : ¬ WD T (qmo I t).1 (qmo I t).2.1 (qmo I t).2.2 4 := n4
          refine wM hG ht (by decide) hW hS (fun n5 _ => ?_) (fun y _ => ?_)
          · have n5 : ¬ WD T (qmo I t).1 (qmo I t).2.1 (qmo I t).2.2 5 := n5
            refine wM hG ht (by decide) hW hS (fun n6 _ => ?_) (fun y _ => ?_)
            · have n6 : ¬ WD T (qmo I t).1 (qmo I t).2.1 (qmo I t).2.2 6 := n6
              refine fsfX12_wrong ht hW (fun v I9 hW9 hF9 hp9 => ⟨narrow_b (Or.inl hp9.1), ?_⟩)
              refine hK v I9 hW9 (Fr.tr Fr.rf hF9 (by intro a k h; omega)) (Or.inr ⟨hp9.1, ?_⟩)
              rw [st_6 n0 n1 n3 n4 n5 n6, hp9.2]
              rfl
            · have y : WD T (qmo I t).1 (qmo I t).2.1 (qmo I t).2.2 6 := y
              exact pX12_metTold ht hW hS hw (fun v I2 hW2 hF2 h => ⟨OM_b h, hK v I2 hW2 hF2 (by rw [st_5 n0 n1 n3 n4 n5 y]; exact h)⟩)
          · have y : WD T (qmo I t).1 (qmo I t).2.1 (qmo I t).2.2 5 := y
            exact pX12_memory ht hW hS hw (fun v I2 hW2 hF2 h => hK v I2 hW2 hF2 (by rw [st_4 n0 n1 n3 n4 y]; exact h))
        · have y : WD T (qmo I t).1 (qmo I t).2.1 (qmo I t).2.2 4 := y
          exact pX12_seats ht hW hS hw (fun v I2 hW2 hF2 h => hK v I2 hW2 hF2 (by rw [st_3 n0 n1 n3 y]; exact h))
      · have y : WD T (qmo I t).1 (qmo I t).2.1 (qmo I t).2.2 3 := y
        exact pX12_strange ht hW hS hw (fun v I2 hW2 hF2 h => hK v I2 hW2 hF2 (by rw [st_2 n0 n1 y]; exact h))
    · have y : WD T (qmo I t).1 (qmo I t).2.1 (qmo I t).2.2 1 := y
      exact pX12_knowTold hG ht hW hS hw (fun v I2 hW2 hF2 h => ⟨OM_b h, hK v I2 hW2 hF2 (by rw [st_1 n0 y]; exact h)⟩)
  · have y : WD T (qmo I t).1 (qmo I t).2.1 (qmo I t).2.2 0 := y
    obtain ⟨z1, z3, z4, z5, z6⟩ := WD_0 y
    refine ⟨fun hc => ?_, fun hc => ?_⟩
    · have hc := Int32.le_iff_toInt_le.mp hc
      refine wM hG ht (by decide) hW hS (fun _ _ => ?_) (fun y _ => absurd y z1)
      refine wM hG ht (by decide) hW hS (fun _ _ => ?_) (fun y _ => absurd y z3)
      refine wM hG ht (by decide) hW hS (fun _ _ => ?_) (fun y _ => absurd y z4)
      refine wM hG ht (by decide) hW hS (fun _ _ => ?_) (fun y _ => absurd y z5)
      refine wM hG ht (by decide) hW hS (fun _ _ => ?_) (fun y _ => absurd y z6)
      refine fsfX12_wrong ht hW (fun v I9 hW9 hF9 hp9 => ⟨narrow_b (Or.inl hp9.1), ?_⟩)
      refine hK v I9 hW9 (Fr.tr Fr.rf hF9 (by intro a k h; omega)) (Or.inr ⟨hp9.1, ?_⟩)
      rw [st_0 y, hp9.2]
      unfold stPerson
      rw [if_pos (by omega)]
      rfl
    · have hc := mt Int32.le_iff_toInt_le.mpr hc
      exact pX12_person ht hW hS hw (by omega) (fun v I2 hW2 hF2 h => hK v I2 hW2 hF2 (by rw [st_0 y]; exact h))
theorem run_ex (T : Nat → Int32) (n s : Int) (tk : Int) : ∀ (k : Nat) (f : Int), f + (k : Int) = n → s < f → 0 ≤ s → (∀ i : Nat, s ≤ i → (i : Int) < f → tokOf (T i) = tk) → ∃ g : Int, f ≤ g ∧ g ≤ n ∧ (∀ i : Nat, s ≤ i → (i : Int) < g → tokOf (T i) = tk) ∧ (g < n → ¬ tokOf (T g.toNat) = tk)
  | 0, f, h1, h2, h0, h3 => ⟨f, by omega, by omega, h3, fun q => by omega⟩
  | k + 1, f, h1, h2, h0, h3 => by
    by_cases c : tokOf (T f.toNat) = tk
    · obtain ⟨g, a, b, d, e⟩ := run_ex T n s tk k (f + 1) (by omega) (by omega) h0 (fun i q1 q2 => by
        by_cases z : (i : Int) < f
        · exact h3 i q1 z
        · have : i = f.toNat := by omega
          rw [this]
          exact c)
      exact ⟨g, by omega, b, d, e⟩
    · exact ⟨f, by omega, by omega, h3, fun _ => c⟩
theorem tk_ex (T : Nat → Int32) (n : Int) : ∀ (k : Nat) (e : Int), e + (k : Int) = n → 0 ≤ e → ∃ q : Q3, TK T n e q.1 q.2.1 q.2.2
  | 0, e, h, h0 => ⟨(0, n, n), ⟨by show e ≤ n; omega, by show n ≤ n; omega⟩, spx_0 (by show n ≤ e; omega), Or.inl ⟨rfl, rfl, rfl⟩, fun q => by have q : (0 : Int) = 1 ∨ (0 : Int) = 2 := q; omega, fun _ => Or.inl rfl⟩
  | k + 1, e, h, h0 => by
    by_cases c : (T e.toNat).toInt = 32
    · obtain ⟨q, ⟨a1, a2⟩, a3, a4⟩ := tk_ex T n k (e + 1) (by omega) (by omega)
      refine ⟨q, ⟨by omega, a2⟩, fun i q1 q2 => ?_, a4⟩
      by_cases z : e + 1 ≤ (i : Int)
      · exact a3 i z q2
      · have : i = e.toNat := by omega
        rw [this]
        exact c
    · by_cases d : tokOf (T e.toNat) = 1 ∨ tokOf (T e.toNat) = 2
      · obtain ⟨g, b1, b2, b3, b4⟩ := run_ex T n e (tokOf (T e.toNat)) k (e + 1) (by omega) (by omega) h0 (fun i q1 q2 => by
          have : i = e.toNat := by omega
          rw [this])
        exact ⟨(tokOf (T e.toNat), e, g), ⟨Int.le_refl _, by show e ≤ n; omega⟩, spx_0 (Int.le_refl _), Or.inr ⟨⟨h0, by show e < n; omega⟩, c, rfl, ⟨by show e < g; omega, b2⟩, b3⟩, fun _ => b4, fun q => absurd d q⟩
      · exact ⟨(tokOf (T e.toNat), e, e + 1), ⟨Int.le_refl _, by show e ≤ n; omega⟩, spx_0 (Int.le_refl _), Or.inr ⟨⟨h0, by show e < n; omega⟩, c, rfl, ⟨by show e < e + 1; omega, by show e + 1 ≤ n; omega⟩, fun i q1 q2 => by
          have q1 : e ≤ (i : Int) := q1
          have q2 : (i : Int) < e + 1 := q2
          have : i = e.toNat := by omega
          rw [this]⟩, fun q => absurd q d, fun _ => Or.inr rfl⟩
theorem adv_ok {T : Nat → Int32} {n e : Int} (h0 : 0 ≤ e) (h1 : e ≤ n) : TK T n e (adv T n e).1 (adv T n e).2.1 (adv T n e).2.2 :=
  Classical.epsilon_spec (p := fun q : Q3 => TK T n e q.1 q.2.1 q.2.2) (tk_ex T n (n - e).toNat e (by omega) h0)
/-- q2 is the token behind q, or a later one -/
def Mo (n : Int) (q q2 : Q3) : Prop := q.2.2 ≤ q2.2.2 ∧ q2.2.2 ≤ n ∧ (¬ q2.1 = 0 → q.2.2 < q2.2.2)
theorem adv_m {T : Nat → Int32} {n : Int} {q : Q3} (h0 : 0 ≤ q.2.2) (h1 : q.2.2 ≤ n) : Mo n q (adv T n q.2.2) := by
  have h := adv_ok (T := T) h0 h1
  obtain ⟨⟨a1, a2⟩, a3, a4, a5⟩ := h
  have := tkp_f a4
  unfold Mo
  rcases a4 with a4 | a4
  · omega
  · obtain ⟨c1, c2, c3, c4, c5⟩ := a4
    omega
theorem Mo_t {n : Int} {a b c : Q3} (h : Mo n a b) (g : Mo n b c) : Mo n a c := by
  unfold Mo at *
  omega
theorem nm_m {T : Nat → Int32} {n : Int} {q : Q3} {lo hi g : Int} {q2 : Q3} {ok : Int → Bool} (h : nm T n q lo hi ok = .inr (g, q2)) (h0 : 0 ≤ q.2.2) (h1 : q.2.2 ≤ n) : Mo n q q2 := by
  unfold nm at h
  by_cases c : q.1 = 2 ∧ lo ≤ vl T q.2.1 q.2.2 ∧ vl T q.2.1 q.2.2 ≤ hi ∧ ok (vl T q.2.1 q.2.2) = true
  · rw [if_pos c] at h
    injection h with h
    injection h with h2 h3
    rw [← h3]
    exact adv_m h0 h1
  · rw [if_neg c] at h
    cases h
theorem metR_m {T : Nat → Int32} {n p : Int} : ∀ (f : Nat) (s : Int32) (q : Q3) (b : Int32 × Q3), 0 ≤ q.2.2 → q.2.2 ≤ n → metR T n p f s q = .inr b → b.2 = q ∨ Mo n q b.2
  | 0, s, q, b, h0, h1, h => by
    injection h with h
    rw [← h]
    exact Or.inl rfl
  | f + 1, s, q, b, h0, h1, h => by
    by_cases c : q.1 = 2
    · cases e : nm T n q 0 (p - 1) (fun x => !(bt s x.toNat)) with
      | inl z =>
        rw [metR_e c e] at h
        cases h
      | inr a =>
        have k := nm_m (g := a.1) (q2 := a.2) e h0 h1
        have h2 : metR T n p f (s ||| ((1 : Int32) <<< (Int32.ofInt a.1 &&& 31))) a.2 = .inr b := by
          rw [← h]
          show _ = (if q.1 = 2 then (match nm T n q 0 (p - 1) (fun x => !(bt s x.toNat)) with
            | .inl e => (Sum.inl e : Sum Int (Int32 × Q3))
            | .inr a => metR T n p f (s ||| ((1 : Int32) <<< (Int32.ofInt a.1 &&& 31))) a.2) else .inr (s, q))
          rw [if_pos c, e]
        have h3 := metR_m f _ a.2 b (by have := k.1; omega) k.2.1 h2
        rcases h3 with h3 | h3
        · rw [h3]
          exact Or.inr k
        · exact Or.inr (Mo_t k h3)
    · rw [metR_n c] at h
      injection h with h
      rw [← h]
      exact Or.inl rfl
theorem st_m {T : Nat → Int32} {n : Int} {w w2 : Tw} {q q2 : Q3} (h : st T n w q = .inr (w2, q2)) (h0 : 0 ≤ q.2.2) (h1 : q.2.2 ≤ n) : Mo n q q2 ∧ q.2.1 + 3 ≤ q.2.2 := by
  have M1 := adv_m (T := T) h0 h1
  have k0 : 0 ≤ (adv T n q.2.2).2.2 := by have := M1.1; omega
  have k1 := M1.2.1
  have W : ∀ u, WD T q.1 q.2.1 q.2.2 u → q.2.1 + 3 ≤ q.2.2 := fun u g => by
    have a := g.2.1
    have b := sl_r u
    omega
  have pair : ∀ kn, stPair T n w q kn = .inr (w2, q2) → Mo n q q2 := fun kn g => by
    rw [stPair_two] at g
    unfold two at g
    cases e1 : nm T n (adv T n q.2.2) 0 (w.1 - 1) (fun _ => true) with
    | inl z =>
      rw [e1] at g
      cases g
    | inr a =>
      rw [e1] at g
      dsimp only at g
      have m1 := Mo_t M1 (nm_m (g := a.1) (q2 := a.2) e1 k0 k1)
      have j0 : 0 ≤ a.2.2.2 := by have := m1.1; omega
      cases e2 : nm T n a.2 0 (w.1 - 1) (fun x => decide (¬ x = a.1)) with
      | inl z =>
        rw [e2] at g
        cases g
      | inr b =>
        rw [e2] at g
        dsimp only at g
        have m2 := Mo_t m1 (nm_m (g := b.1) (q2 := b.2) e2 j0 m1.2.1)
        by_cases c : kn = true ∧ WD T b.2.1 b.2.2.1 b.2.2.2 2
        · rw [if_pos c] at g
          unfold stSince at g
          have l0 : 0 ≤ b.2.2.2 := by have := m2.1; omega
          have m3 := Mo_t m2 (adv_m (T := T) l0 m2.2.1)
          cases e3 : nm T n (adv T n b.2.2.2) 0 99 (fun _ => true) with
          | inl z =>
            rw [e3] at g
            cases g
          | inr d =>
            rw [e3] at g
            injection g with g
            injection g with g1 g2
            rw [← g2]
            exact Mo_t m3 (nm_m (g := d.1) (q2 := d.2) e3 (by have := m3.1; omega) m3.2.1)
        · rw [if_neg c] at g
          injection g with g
          injection g with g1 g2
          rw [← g2]
          exact m2
  have one : ∀ lo hi (F : Int → Tw), (match nm T n (adv T n q.2.2) lo hi (fun _ => true) with | .inl p => Sum.inl p | .inr h => Sum.inr (F h.1, h.2)) = (Sum.inr (w2, q2) : Sum Int (Tw × Q3)) → Mo n q q2 := fun lo hi F g => by
    cases e1 : nm T n (adv T n q.2.2) lo hi (fun _ => true) with
    | inl z =>
      rw [e1] at g
      cases g
    | inr a =>
      rw [e1] at g
      injection g with g
      injection g with g1 g2
      rw [← g2]
      exact Mo_t M1 (nm_m (g := a.1) (q2 := a.2) e1 k0 k1)
  unfold st at h
  by_cases c0 : WD T q.1 q.2.1 q.2.2 0
  · rw [if_pos c0] at h
    refine ⟨?_, W _ c0⟩
    unfold stPerson at h
    by_cases d : 7 ≤ w.1
    · rw [if_pos d] at h
      cases h
    · rw [if_neg d] at h
      cases e1 : nm T n (adv T n q.2.2) 0 23 (fun _ => true) with
      | inl z =>
        rw [e1] at h
        cases h
      | inr a =>
        rw [e1] at h
        dsimp only at h
        have m1 := Mo_t M1 (nm_m (g := a.1) (q2 := a.2) e1 k0 k1)
        cases e2 : nm T n a.2 0 9 (fun _ => true) with
        | inl z =>
          rw [e2] at h
          cases h
        | inr b =>
          rw [e2] at h
          injection h with h
          injection h with g1 g2
          rw [← g2]
          exact Mo_t m1 (nm_m (g := b.1) (q2 := b.2) e2 (by have := m1.1; omega) m1.2.1)
  · rw [if_neg c0] at h
    by_cases c1 : WD T q.1 q.2.1 q.2.2 1
    · rw [if_pos c1] at h
      exact ⟨pair _ h, W _ c1⟩
    · rw [if_neg c1] at h
      by_cases c3 : WD T q.1 q.2.1 q.2.2 3
      · rw [if_pos c3] at h
        exact ⟨pair _ h, W _ c3⟩
      · rw [if_neg c3] at h
        by_cases c4 : WD T q.1 q.2.1 q.2.2 4
        · rw [if_pos c4] at h
          exact ⟨one 2 4 (seatT w) h, W _ c4⟩
        · rw [if_neg c4] at h
          by_cases c5 : WD T q.1 q.2.1 q.2.2 5
          · rw [if_pos c5] at h
            exact ⟨one 0 99 (memT w) h, W _ c5⟩
          · rw [if_neg c5] at h
            by_cases c6 : WD T q.1 q.2.1 q.2.2 6
            · rw [if_pos c6] at h
              refine ⟨?_, W _ c6⟩
              unfold stMet at h
              cases e1 : nm T n (adv T n q.2.2) 0 (w.1 - 1) (fun _ => true) with
              | inl z =>
                rw [e1] at h
                cases h
              | inr a =>
                rw [e1] at h
                dsimp only at h
                have m1 := Mo_t M1 (nm_m (g := a.1) (q2 := a.2) e1 k0 k1)
                cases e2 : metR T n w.1 7 ((1 : Int32) <<< (Int32.ofInt a.1 &&& 31)) a.2 with
                | inl z =>
                  rw [e2] at h
                  cases h
                | inr b =>
                  rw [e2] at h
                  injection h with h
                  injection h with g1 g2
                  rw [← g2]
                  rcases metR_m 7 _ a.2 b (by have := m1.1; omega) m1.2.1 e2 with g | g
                  · rw [g]
                    exact m1
                  · exact Mo_t m1 g
            · rw [if_neg c6] at h
              cases h
